def f_X1_tally (z : Sh9) (a0 : Nat) (a1 : Int32) (M : Mem9) : Re9 :=
  (if a1 = (2 : Int32) then ((gf9 z M a0 1 5).bind fun v1 => (ri9 v1 M)) else (if a1 = (3 : Int32) then ((gf9 z M a0 1 12).bind fun v3 => (ri9 v3 M)) else (if a1 = (4 : Int32) then ((gf9 z M a0 1 13).bind fun v5 => (ri9 v5 M)) else (if a1 = (5 : Int32) then ((gf9 z M a0 1 14).bind fun v7 => (ri9 v7 M)) else (if a1 = (6 : Int32) then ((gf9 z M a0 1 15).bind fun v9 => (ri9 v9 M)) else (if a1 = (7 : Int32) then ((gf9 z M a0 1 11).bind fun v11 => (if v11 = 0 then (ri9 (0 : Int32) M) else (ri9 (1 : Int32) M))) else (if a1 = (8 : Int32) then ((gf9 z M a0 1 10).bind fun v14 => (if v14 = 0 then (ri9 (0 : Int32) M) else (ri9 (1 : Int32) M))) else (if a1 = (9 : Int32) then ((gf9 z M a0 1 16).bind fun v17 => (ri9 v17 M)) else (ri9 (0 : Int32) M)))))))))
set_option maxRecDepth 20000 in
set_option maxHeartbeats 4000000 in
theorem t_X1_tally {z : Sh9} {N : Nv9} {X : Cx9} {out : Out9 × Mem9} (C : OK9 z N X out 2 (co9 out.1) cX1_tally RX1 0 1 []) (a0 : Nat) (a1 : Int32) (M : Mem9) : J9 z N X out 2 0 [(0, .ref a0), (1, .int a1)] [] M (0, 0) (f_X1_tally z a0 a1 M) := by
  refine j_iload_n (pc := 0) C dX1_tally_0 rfl ?_
  refine j_ite (fun hc2 => ?_) (fun hc2 => ?_)
  · refine j_tsIn (pc := 1) C (2) dX1_tally_1 (by rw [hc2]; rfl) (by decide) (off := 47) rfl (tgt := 48) (by decide) ?_
    refine j_aload_n (pc := 48) C dX1_tally_48 rfl ?_
    refine j_getI (pc := 49) C dX1_tally_49 fl_X1_31 fi_X1_5 (fun v1 => ?_)
    exact j_ireturn (pc := 52) C rfl dX1_tally_52 ⟨Nat.zero_le _, Nat.zero_le _⟩
  · refine j_ite (fun hc4 => ?_) (fun hc4 => ?_)
    · refine j_tsIn (pc := 1) C (3) dX1_tally_1 (by rw [hc4]; rfl) (by decide) (off := 52) rfl (tgt := 53) (by decide) ?_
      refine j_aload_n (pc := 53) C dX1_tally_53 rfl ?_
      refine j_getI (pc := 54) C dX1_tally_54 fl_X1_54 fi_X1_12 (fun v3 => ?_)
      exact j_ireturn (pc := 57) C rfl dX1_tally_57 ⟨Nat.zero_le _, Nat.zero_le _⟩
    · refine j_ite (fun hc6 => ?_) (fun hc6 => ?_)
      · refine j_tsIn (pc := 1) C (4) dX1_tally_1 (by rw [hc6]; rfl) (by decide) (off := 57) rfl (tgt := 58) (by decide) ?_
        refine j_aload_n (pc := 58) C dX1_tally_58 rfl ?_
        refine j_getI (pc := 59) C dX1_tally_59 fl_X1_57 fi_X1_13 (fun v5 => ?_)
        exact j_ireturn (pc := 62) C rfl dX1_tally_62 ⟨Nat.zero_le _, Nat.zero_le _⟩
      · refine j_ite (fun hc8 => ?_) (fun hc8 => ?_)
        · refine j_tsIn (pc := 1) C (5) dX1_tally_1 (by rw [hc8]; rfl) (by decide) (off := 62) rfl (tgt := 63) (by decide) ?_
          refine j_aload_n (pc := 63) C dX1_tally_63 rfl ?_
          refine j_getI (pc := 64) C dX1_tally_64 fl_X1_60 fi_X1_14 (fun v7 => ?_)
          exact j_ireturn (pc := 67) C rfl dX1_tally_67 ⟨Nat.zero_le _, Nat.zero_le _⟩
        · refine j_ite (fun hc10 => ?_) (fun hc10 => ?_)
          · refine j_tsIn (pc := 1) C (6) dX1_tally_1 (by rw [hc10]; rfl) (by decide) (off := 67) rfl (tgt := 68) (by decide) ?_
            refine j_aload_n (pc := 68) C dX1_tally_68 rfl ?_
            refine j_getI (pc := 69) C dX1_tally_69 fl_X1_63 fi_X1_15 (fun v9 => ?_)
            exact j_ireturn (pc := 72) C rfl dX1_tally_72 ⟨Nat.zero_le _, Nat.zero_le _⟩
          · refine j_ite (fun hc13 => ?_) (fun hc13 => ?_)
            · refine j_tsIn (pc := 1) C (7) dX1_tally_1 (by rw [hc13]; rfl) (by decide) (off := 72) rfl (tgt := 73) (by decide) ?_
              refine j_aload_n (pc := 73) C dX1_tally_73 rfl ?_
              refine j_getI (pc := 74) C dX1_tally_74 fl_X1_51 fi_X1_11 (fun v11 => ?_)
              refine j_if_eq (pc := 77) C dX1_tally_77 (tgt := 84) (by decide) (fun hc12 => ?_) (fun hc12 => ?_)
              · refine j_iconst (pc := 84) C dX1_tally_84 (v := 0) rfl ?_
                exact j_ireturn (pc := 85) C rfl dX1_tally_85 ⟨Nat.zero_le _, Nat.zero_le _⟩
              · refine j_iconst (pc := 80) C dX1_tally_80 (v := 1) rfl ?_
                refine j_goto (pc := 81) C dX1_tally_81 (tgt := 85) (by decide) ?_
                exact j_ireturn (pc := 85) C rfl dX1_tally_85 ⟨Nat.zero_le _, Nat.zero_le _⟩
            · refine j_ite (fun hc16 => ?_) (fun hc16 => ?_)
              · refine j_tsIn (pc := 1) C (8) dX1_tally_1 (by rw [hc16]; rfl) (by decide) (off := 85) rfl (tgt := 86) (by decide) ?_
                refine j_aload_n (pc := 86) C dX1_tally_86 rfl ?_
                refine j_getI (pc := 87) C dX1_tally_87 fl_X1_47 fi_X1_10 (fun v14 => ?_)
                refine j_if_eq (pc := 90) C dX1_tally_90 (tgt := 97) (by decide) (fun hc15 => ?_) (fun hc15 => ?_)
                · refine j_iconst (pc := 97) C dX1_tally_97 (v := 0) rfl ?_
                  exact j_ireturn (pc := 98) C rfl dX1_tally_98 ⟨Nat.zero_le _, Nat.zero_le _⟩
                · refine j_iconst (pc := 93) C dX1_tally_93 (v := 1) rfl ?_
                  refine j_goto (pc := 94) C dX1_tally_94 (tgt := 98) (by decide) ?_
                  exact j_ireturn (pc := 98) C rfl dX1_tally_98 ⟨Nat.zero_le _, Nat.zero_le _⟩
              · refine j_ite (fun hc18 => ?_) (fun hc18 => ?_)
                · refine j_tsIn (pc := 1) C (9) dX1_tally_1 (by rw [hc18]; rfl) (by decide) (off := 98) rfl (tgt := 99) (by decide) ?_
                  refine j_aload_n (pc := 99) C dX1_tally_99 rfl ?_
                  refine j_getI (pc := 100) C dX1_tally_100 fl_X1_66 fi_X1_16 (fun v17 => ?_)
                  exact j_ireturn (pc := 103) C rfl dX1_tally_103 ⟨Nat.zero_le _, Nat.zero_le _⟩
                · refine j_tsOut (pc := 1) C dX1_tally_1 (by have qhc2 := ne9 (k := 2) hc2 rfl; have qhc4 := ne9 (k := 3) hc4 rfl; have qhc6 := ne9 (k := 4) hc6 rfl; have qhc8 := ne9 (k := 5) hc8 rfl; have qhc10 := ne9 (k := 6) hc10 rfl; have qhc13 := ne9 (k := 7) hc13 rfl; have qhc16 := ne9 (k := 8) hc16 rfl; have qhc18 := ne9 (k := 9) hc18 rfl; omega) (tgt := 104) (by decide) ?_
                  refine j_iconst (pc := 104) C dX1_tally_104 (v := 0) rfl ?_
                  exact j_ireturn (pc := 105) C rfl dX1_tally_105 ⟨Nat.zero_le _, Nat.zero_le _⟩
theorem sp_X1_tally {l : Launch} {z : Sh9} {N : Nv9} {a0 : Nat} {a1 : Int32} {M : Mem9} {o : Out9 × Mem9} (hl : l.stackTraces = false) (h : f_X1_tally z a0 a1 M = some o) : Sp9 l z N yX1_tally (Cond.code yX1_tally cX1_tally 2 (some .int)) 0 [.ref a0, .int a1] M (co9 o.1) o :=
  sp9_of (rk := 1) (own := RX1) (by decide +kernel) rfl (Or.inr (Or.inl ⟨rfl, rfl⟩)) hl (Nat.le_of_ble_eq_true rfl) (fun X C => t_X1_tally C a0 a1 M) h
def f_X1_clear (z : Sh9) (a0 : Nat) (M : Mem9) : Re9 :=
  ((pf9 z M a0 1 5 (0 : Int32)).bind fun M1 => ((pf9 z M1 a0 1 6 (0 : Int32)).bind fun M2 => ((pf9 z M2 a0 1 7 (0 : Int32)).bind fun M3 => ((pf9 z M3 a0 1 8 (48 : Int32)).bind fun M4 => ((pf9 z M4 a0 1 9 (0 : Int32)).bind fun M5 => ((pz9 z M5 a0 1 10 (0 : Int32)).bind fun M6 => ((pz9 z M6 a0 1 11 (0 : Int32)).bind fun M7 => ((pf9 z M7 a0 1 12 (0 : Int32)).bind fun M8 => ((pf9 z M8 a0 1 13 (0 : Int32)).bind fun M9 => ((pf9 z M9 a0 1 14 (0 : Int32)).bind fun M10 => ((pf9 z M10 a0 1 15 (0 : Int32)).bind fun M11 => ((pf9 z M11 a0 1 16 (0 : Int32)).bind fun M12 => (rv9 M12)))))))))))))
set_option maxRecDepth 20000 in
set_option maxHeartbeats 4000000 in
theorem t_X1_clear {z : Sh9} {N : Nv9} {X : Cx9} {out : Out9 × Mem9} (C : OK9 z N X out 1 (co9 out.1) cX1_clear RX1 0 0 []) (a0 : Nat) (M : Mem9) : J9 z N X out 1 0 [(0, .ref a0)] [] M (0, 0) (f_X1_clear z a0 M) := by
  refine j_aload_n (pc := 0) C dX1_clear_0 rfl ?_
  refine j_iconst (pc := 1) C dX1_clear_1 (v := 0) rfl ?_
  refine j_putI (pc := 2) C dX1_clear_2 fl_X1_31 fi_X1_5 rfl rfl (fun M1 => ?_)
  refine j_aload_n (pc := 5) C dX1_clear_5 rfl ?_
  refine j_iconst (pc := 6) C dX1_clear_6 (v := 0) rfl ?_
  refine j_putI (pc := 7) C dX1_clear_7 fl_X1_35 fi_X1_6 rfl rfl (fun M2 => ?_)
  refine j_aload_n (pc := 10) C dX1_clear_10 rfl ?_
  refine j_iconst (pc := 11) C dX1_clear_11 (v := 0) rfl ?_
  refine j_putI (pc := 12) C dX1_clear_12 fl_X1_38 fi_X1_7 rfl rfl (fun M3 => ?_)
  refine j_aload_n (pc := 15) C dX1_clear_15 rfl ?_
  refine j_bipush (pc := 16) C dX1_clear_16 (v := 48) rfl ?_
  refine j_putI (pc := 18) C dX1_clear_18 fl_X1_41 fi_X1_8 rfl rfl (fun M4 => ?_)
  refine j_aload_n (pc := 21) C dX1_clear_21 rfl ?_
  refine j_iconst (pc := 22) C dX1_clear_22 (v := 0) rfl ?_
  refine j_putI (pc := 23) C dX1_clear_23 fl_X1_44 fi_X1_9 rfl rfl (fun M5 => ?_)
  refine j_aload_n (pc := 26) C dX1_clear_26 rfl ?_
  refine j_iconst (pc := 27) C dX1_clear_27 (v := 0) rfl ?_
  refine j_putZ (pc := 28) C dX1_clear_28 fl_X1_47 fi_X1_10 rfl rfl (fun M6 => ?_)
  refine j_aload_n (pc := 31) C dX1_clear_31 rfl ?_
  refine j_iconst (pc := 32) C dX1_clear_32 (v := 0) rfl ?_
  refine j_putZ (pc := 33) C dX1_clear_33 fl_X1_51 fi_X1_11 rfl rfl (fun M7 => ?_)
  refine j_aload_n (pc := 36) C dX1_clear_36 rfl ?_
  refine j_iconst (pc := 37) C dX1_clear_37 (v := 0) rfl ?_
  refine j_putI (pc := 38) C dX1_clear_38 fl_X1_54 fi_X1_12 rfl rfl (fun M8 => ?_)
  refine j_aload_n (pc := 41) C dX1_clear_41 rfl ?_
  refine j_iconst (pc := 42) C dX1_clear_42 (v := 0) rfl ?_
  refine j_putI (pc := 43) C dX1_clear_43 fl_X1_57 fi_X1_13 rfl rfl (fun M9 => ?_)
  refine j_aload_n (pc := 46) C dX1_clear_46 rfl ?_
  refine j_iconst (pc := 47) C dX1_clear_47 (v := 0) rfl ?_
  refine j_putI (pc := 48) C dX1_clear_48 fl_X1_60 fi_X1_14 rfl rfl (fun M10 => ?_)
  refine j_aload_n (pc := 51) C dX1_clear_51 rfl ?_
  refine j_iconst (pc := 52) C dX1_clear_52 (v := 0) rfl ?_
  refine j_putI (pc := 53) C dX1_clear_53 fl_X1_63 fi_X1_15 rfl rfl (fun M11 => ?_)
  refine j_aload_n (pc := 56) C dX1_clear_56 rfl ?_
  refine j_iconst (pc := 57) C dX1_clear_57 (v := 0) rfl ?_
  refine j_putI (pc := 58) C dX1_clear_58 fl_X1_66 fi_X1_16 rfl rfl (fun M12 => ?_)
  exact j_return (pc := 61) C rfl dX1_clear_61 ⟨Nat.zero_le _, Nat.zero_le _⟩
theorem sp_X1_clear {l : Launch} {z : Sh9} {N : Nv9} {a0 : Nat} {M : Mem9} {o : Out9 × Mem9} (hl : l.stackTraces = false) (h : f_X1_clear z a0 M = some o) : Sp9 l z N yX1_clear (Cond.code yX1_clear cX1_clear 1 none) 0 [.ref a0] M (co9 o.1) o :=
  sp9_of (rk := 0) (own := RX1) (by decide +kernel) rfl (Or.inl ⟨rfl, rfl⟩) hl (Nat.le_of_ble_eq_true rfl) (fun X C => t_X1_clear C a0 M) h
def f_X1_copyVehicle (z : Sh9) (a0 : Nat) (a1 : Nat) (a2 : Int32) (a3 : Int32) (M : Mem9) : Re9 :=
  ((rf9 z a0 1 1).bind fun v1 => ((rf9 z a1 1 1).bind fun v2 => ((ld9 z M 10 v2 a2).bind fun v3 => ((st9 z M v1 a3 v3).bind fun M4 => ((rf9 z a0 1 2).bind fun v5 => ((rf9 z a1 1 2).bind fun v6 => ((ld9 z M4 10 v6 a2).bind fun v7 => ((st9 z M4 v5 a3 v7).bind fun M8 => ((rf9 z a0 1 3).bind fun v9 => ((rf9 z a1 1 3).bind fun v10 => ((ld9 z M8 11 v10 a2).bind fun v11 => ((sz9 z M8 v9 a3 v11).bind fun M12 => ((rf9 z a0 1 4).bind fun v13 => ((rf9 z a1 1 4).bind fun v14 => ((ld9 z M12 11 v14 a2).bind fun v15 => ((sz9 z M12 v13 a3 v15).bind fun M16 => ((rf9 z a0 1 5).bind fun v17 => ((rf9 z a1 1 5).bind fun v18 => ((ld9 z M16 11 v18 a2).bind fun v19 => ((sz9 z M16 v17 a3 v19).bind fun M20 => (rv9 M20)))))))))))))))))))))
set_option maxRecDepth 20000 in
set_option maxHeartbeats 4000000 in
theorem t_X1_copyVehicle {z : Sh9} {N : Nv9} {X : Cx9} {out : Out9 × Mem9} (C : OK9 z N X out 4 (co9 out.1) cX1_copyVehicle RX1 0 0 []) (a0 : Nat) (a1 : Nat) (a2 : Int32) (a3 : Int32) (M : Mem9) : J9 z N X out 4 0 [(0, .ref a0), (1, .ref a1), (2, .int a2), (3, .int a3)] [] M (0, 0) (f_X1_copyVehicle z a0 a1 a2 a3 M) := by
  refine j_aload_n (pc := 0) C dX1_copyVehicle_0 rfl ?_
  refine j_getR (pc := 1) C dX1_copyVehicle_1 fl_X1_9 fr_X1_0 (fun v1 => ?_)
  refine j_iload_n (pc := 4) C dX1_copyVehicle_4 rfl ?_
  refine j_aload_n (pc := 5) C dX1_copyVehicle_5 rfl ?_
  refine j_getR (pc := 6) C dX1_copyVehicle_6 fl_X1_9 fr_X1_0 (fun v2 => ?_)
  refine j_iload_n (pc := 9) C dX1_copyVehicle_9 rfl ?_
  refine j_iaload (pc := 10) C dX1_copyVehicle_10 (fun v3 => ?_)
  refine j_iastore (pc := 11) C dX1_copyVehicle_11 (fun M4 => ?_)
  refine j_aload_n (pc := 12) C dX1_copyVehicle_12 rfl ?_
  refine j_getR (pc := 13) C dX1_copyVehicle_13 fl_X1_15 fr_X1_1 (fun v5 => ?_)
  refine j_iload_n (pc := 16) C dX1_copyVehicle_16 rfl ?_
  refine j_aload_n (pc := 17) C dX1_copyVehicle_17 rfl ?_
  refine j_getR (pc := 18) C dX1_copyVehicle_18 fl_X1_15 fr_X1_1 (fun v6 => ?_)
  refine j_iload_n (pc := 21) C dX1_copyVehicle_21 rfl ?_
  refine j_iaload (pc := 22) C dX1_copyVehicle_22 (fun v7 => ?_)
  refine j_iastore (pc := 23) C dX1_copyVehicle_23 (fun M8 => ?_)
  refine j_aload_n (pc := 24) C dX1_copyVehicle_24 rfl ?_
  refine j_getR (pc := 25) C dX1_copyVehicle_25 fl_X1_18 fr_X1_2 (fun v9 => ?_)
  refine j_iload_n (pc := 28) C dX1_copyVehicle_28 rfl ?_
  refine j_aload_n (pc := 29) C dX1_copyVehicle_29 rfl ?_
  refine j_getR (pc := 30) C dX1_copyVehicle_30 fl_X1_18 fr_X1_2 (fun v10 => ?_)
  refine j_iload_n (pc := 33) C dX1_copyVehicle_33 rfl ?_
  refine j_baload (pc := 34) C dX1_copyVehicle_34 (fun v11 => ?_)
  refine j_bastore (pc := 35) C dX1_copyVehicle_35 (fun M12 => ?_)
  refine j_aload_n (pc := 36) C dX1_copyVehicle_36 rfl ?_
  refine j_getR (pc := 37) C dX1_copyVehicle_37 fl_X1_22 fr_X1_3 (fun v13 => ?_)
  refine j_iload_n (pc := 40) C dX1_copyVehicle_40 rfl ?_
  refine j_aload_n (pc := 41) C dX1_copyVehicle_41 rfl ?_
  refine j_getR (pc := 42) C dX1_copyVehicle_42 fl_X1_22 fr_X1_3 (fun v14 => ?_)
  refine j_iload_n (pc := 45) C dX1_copyVehicle_45 rfl ?_
  refine j_baload (pc := 46) C dX1_copyVehicle_46 (fun v15 => ?_)
  refine j_bastore (pc := 47) C dX1_copyVehicle_47 (fun M16 => ?_)
  refine j_aload_n (pc := 48) C dX1_copyVehicle_48 rfl ?_
  refine j_getR (pc := 49) C dX1_copyVehicle_49 fl_X1_25 fr_X1_4 (fun v17 => ?_)
  refine j_iload_n (pc := 52) C dX1_copyVehicle_52 rfl ?_
  refine j_aload_n (pc := 53) C dX1_copyVehicle_53 rfl ?_
  refine j_getR (pc := 54) C dX1_copyVehicle_54 fl_X1_25 fr_X1_4 (fun v18 => ?_)
  refine j_iload_n (pc := 57) C dX1_copyVehicle_57 rfl ?_
  refine j_baload (pc := 58) C dX1_copyVehicle_58 (fun v19 => ?_)
  refine j_bastore (pc := 59) C dX1_copyVehicle_59 (fun M20 => ?_)
  exact j_return (pc := 60) C rfl dX1_copyVehicle_60 ⟨Nat.zero_le _, Nat.zero_le _⟩
theorem sp_X1_copyVehicle {l : Launch} {z : Sh9} {N : Nv9} {a0 : Nat} {a1 : Nat} {a2 : Int32} {a3 : Int32} {M : Mem9} {o : Out9 × Mem9} (hl : l.stackTraces = false) (h : f_X1_copyVehicle z a0 a1 a2 a3 M = some o) : Sp9 l z N yX1_copyVehicle (Cond.code yX1_copyVehicle cX1_copyVehicle 4 none) 0 [.ref a0, .ref a1, .int a2, .int a3] M (co9 o.1) o :=
  sp9_of (rk := 0) (own := RX1) (by decide +kernel) rfl (Or.inl ⟨rfl, rfl⟩) hl (Nat.le_of_ble_eq_true rfl) (fun X C => t_X1_copyVehicle C a0 a1 a2 a3 M) h
def f_X1_copyFrom_b2 (z : Sh9) (r2 : Nat → Nat → Int32 → Mem9 → Re9) (x0 : Nat) (x1 : Nat) (x2 : Int32) (M : Mem9) : Re9 :=
  (if (6 : Int32) ≤ x2 then ((gf9 z M x1 1 5).bind fun v1 => ((pf9 z M x0 1 5 v1).bind fun M2 => ((gf9 z M2 x1 1 6).bind fun v3 => ((pf9 z M2 x0 1 6 v3).bind fun M4 => ((gf9 z M4 x1 1 7).bind fun v5 => ((pf9 z M4 x0 1 7 v5).bind fun M6 => ((gf9 z M6 x1 1 8).bind fun v7 => ((pf9 z M6 x0 1 8 v7).bind fun M8 => ((gf9 z M8 x1 1 9).bind fun v9 => ((pf9 z M8 x0 1 9 v9).bind fun M10 => ((gf9 z M10 x1 1 10).bind fun v11 => ((pz9 z M10 x0 1 10 v11).bind fun M12 => ((gf9 z M12 x1 1 11).bind fun v13 => ((pz9 z M12 x0 1 11 v13).bind fun M14 => ((gf9 z M14 x1 1 12).bind fun v15 => ((pf9 z M14 x0 1 12 v15).bind fun M16 => ((gf9 z M16 x1 1 13).bind fun v17 => ((pf9 z M16 x0 1 13 v17).bind fun M18 => ((gf9 z M18 x1 1 14).bind fun v19 => ((pf9 z M18 x0 1 14 v19).bind fun M20 => ((gf9 z M20 x1 1 15).bind fun v21 => ((pf9 z M20 x0 1 15 v21).bind fun M22 => ((gf9 z M22 x1 1 16).bind fun v23 => ((pf9 z M22 x0 1 16 v23).bind fun M24 => (rv9 M24))))))))))))))))))))))))) else (bv9 (iv9 z x0 1 (f_X1_copyVehicle z x0 x1 x2 x2 M)) fun M25 => (r2 x0 x1 (x2 + (1 : Int32)) M25)))
set_option maxRecDepth 20000 in
set_option maxHeartbeats 4000000 in
theorem t_X1_copyFrom_b2 {z : Sh9} {N : Nv9} {X : Cx9} {out : Out9 × Mem9} (C : OK9 z N X out 3 (co9 out.1) cX1_copyFrom RX1 1 0 []) {r2 : Nat → Nat → Int32 → Mem9 → Re9} (h2 : ∀ (x0 : Nat) (x1 : Nat) (x2 : Int32) (M : Mem9), J9 z N X out 3 2 [(0, .ref x0), (1, .ref x1), (2, .int x2)] [] M (0, 0) (r2 x0 x1 x2 M)) (x0 : Nat) (x1 : Nat) (x2 : Int32) (M : Mem9) : J9 z N X out 3 2 [(0, .ref x0), (1, .ref x1), (2, .int x2)] [] M (0, 0) (f_X1_copyFrom_b2 z r2 x0 x1 x2 M) := by
  refine j_iload_n (pc := 2) C dX1_copyFrom_2 rfl ?_
  refine j_bipush (pc := 3) C dX1_copyFrom_3 (v := 6) rfl ?_
  refine j_icmp_ge (pc := 5) C dX1_copyFrom_5 (tgt := 21) (by decide) (fun hc26 => ?_) (fun hc26 => ?_)
  · refine j_aload_n (pc := 21) C dX1_copyFrom_21 rfl ?_
    refine j_aload_n (pc := 22) C dX1_copyFrom_22 rfl ?_
    refine j_getI (pc := 23) C dX1_copyFrom_23 fl_X1_31 fi_X1_5 (fun v1 => ?_)
    refine j_putI (pc := 26) C dX1_copyFrom_26 fl_X1_31 fi_X1_5 rfl rfl (fun M2 => ?_)
    refine j_aload_n (pc := 29) C dX1_copyFrom_29 rfl ?_
    refine j_aload_n (pc := 30) C dX1_copyFrom_30 rfl ?_
    refine j_getI (pc := 31) C dX1_copyFrom_31 fl_X1_35 fi_X1_6 (fun v3 => ?_)
    refine j_putI (pc := 34) C dX1_copyFrom_34 fl_X1_35 fi_X1_6 rfl rfl (fun M4 => ?_)
    refine j_aload_n (pc := 37) C dX1_copyFrom_37 rfl ?_
    refine j_aload_n (pc := 38) C dX1_copyFrom_38 rfl ?_
    refine j_getI (pc := 39) C dX1_copyFrom_39 fl_X1_38 fi_X1_7 (fun v5 => ?_)
    refine j_putI (pc := 42) C dX1_copyFrom_42 fl_X1_38 fi_X1_7 rfl rfl (fun M6 => ?_)
    refine j_aload_n (pc := 45) C dX1_copyFrom_45 rfl ?_
    refine j_aload_n (pc := 46) C dX1_copyFrom_46 rfl ?_
    refine j_getI (pc := 47) C dX1_copyFrom_47 fl_X1_41 fi_X1_8 (fun v7 => ?_)
    refine j_putI (pc := 50) C dX1_copyFrom_50 fl_X1_41 fi_X1_8 rfl rfl (fun M8 => ?_)
    refine j_aload_n (pc := 53) C dX1_copyFrom_53 rfl ?_
    refine j_aload_n (pc := 54) C dX1_copyFrom_54 rfl ?_
    refine j_getI (pc := 55) C dX1_copyFrom_55 fl_X1_44 fi_X1_9 (fun v9 => ?_)
    refine j_putI (pc := 58) C dX1_copyFrom_58 fl_X1_44 fi_X1_9 rfl rfl (fun M10 => ?_)
    refine j_aload_n (pc := 61) C dX1_copyFrom_61 rfl ?_
    refine j_aload_n (pc := 62) C dX1_copyFrom_62 rfl ?_
    refine j_getI (pc := 63) C dX1_copyFrom_63 fl_X1_47 fi_X1_10 (fun v11 => ?_)
    refine j_putZ (pc := 66) C dX1_copyFrom_66 fl_X1_47 fi_X1_10 rfl rfl (fun M12 => ?_)
    refine j_aload_n (pc := 69) C dX1_copyFrom_69 rfl ?_
    refine j_aload_n (pc := 70) C dX1_copyFrom_70 rfl ?_
    refine j_getI (pc := 71) C dX1_copyFrom_71 fl_X1_51 fi_X1_11 (fun v13 => ?_)
    refine j_putZ (pc := 74) C dX1_copyFrom_74 fl_X1_51 fi_X1_11 rfl rfl (fun M14 => ?_)
    refine j_aload_n (pc := 77) C dX1_copyFrom_77 rfl ?_
    refine j_aload_n (pc := 78) C dX1_copyFrom_78 rfl ?_
    refine j_getI (pc := 79) C dX1_copyFrom_79 fl_X1_54 fi_X1_12 (fun v15 => ?_)
    refine j_putI (pc := 82) C dX1_copyFrom_82 fl_X1_54 fi_X1_12 rfl rfl (fun M16 => ?_)
    refine j_aload_n (pc := 85) C dX1_copyFrom_85 rfl ?_
    refine j_aload_n (pc := 86) C dX1_copyFrom_86 rfl ?_
    refine j_getI (pc := 87) C dX1_copyFrom_87 fl_X1_57 fi_X1_13 (fun v17 => ?_)
    refine j_putI (pc := 90) C dX1_copyFrom_90 fl_X1_57 fi_X1_13 rfl rfl (fun M18 => ?_)
    refine j_aload_n (pc := 93) C dX1_copyFrom_93 rfl ?_
    refine j_aload_n (pc := 94) C dX1_copyFrom_94 rfl ?_
    refine j_getI (pc := 95) C dX1_copyFrom_95 fl_X1_60 fi_X1_14 (fun v19 => ?_)
    refine j_putI (pc := 98) C dX1_copyFrom_98 fl_X1_60 fi_X1_14 rfl rfl (fun M20 => ?_)
    refine j_aload_n (pc := 101) C dX1_copyFrom_101 rfl ?_
    refine j_aload_n (pc := 102) C dX1_copyFrom_102 rfl ?_
    refine j_getI (pc := 103) C dX1_copyFrom_103 fl_X1_63 fi_X1_15 (fun v21 => ?_)
    refine j_putI (pc := 106) C dX1_copyFrom_106 fl_X1_63 fi_X1_15 rfl rfl (fun M22 => ?_)
    refine j_aload_n (pc := 109) C dX1_copyFrom_109 rfl ?_
    refine j_aload_n (pc := 110) C dX1_copyFrom_110 rfl ?_
    refine j_getI (pc := 111) C dX1_copyFrom_111 fl_X1_66 fi_X1_16 (fun v23 => ?_)
    refine j_putI (pc := 114) C dX1_copyFrom_114 fl_X1_66 fi_X1_16 rfl rfl (fun M24 => ?_)
    exact j_return (pc := 117) C rfl dX1_copyFrom_117 ⟨Nat.zero_le _, Nat.zero_le _⟩
  · refine j_aload_n (pc := 8) C dX1_copyFrom_8 rfl ?_
    refine j_aload_n (pc := 9) C dX1_copyFrom_9 rfl ?_
    refine j_iload_n (pc := 10) C dX1_copyFrom_10 rfl ?_
    refine j_iload_n (pc := 11) C dX1_copyFrom_11 rfl ?_
    refine j_callVv (pc := 12) C rfl dX1_copyFrom_12 lv_X1_69 rfl (Nat.le_of_ble_eq_true rfl) (Nat.le_of_ble_eq_true rfl) (by decide) (Or.inl rfl) ⟨Nat.le_refl _, Nat.le_refl _⟩ (fun l hl o ho => sp_X1_copyVehicle hl ho) (fun M25 => ?_)
    refine j_iinc (pc := 15) C dX1_copyFrom_15 rfl (v := (x2 + (1 : Int32))) rfl (Nat.le_of_ble_eq_true rfl) (ls' := [(2, .int (x2 + (1 : Int32))), (0, .ref x0), (1, .ref x1)]) rfl ?_
    refine j_goto (pc := 18) C dX1_copyFrom_18 (tgt := 2) (by decide) ?_
    refine j_loc [1, 2, 0] rfl ?_
    exact h2 x0 x1 (x2 + (1 : Int32)) M25
theorem t_X1_copyFrom_l2 {z : Sh9} {N : Nv9} {X : Cx9} {out : Out9 × Mem9} (C : OK9 z N X out 3 (co9 out.1) cX1_copyFrom RX1 1 0 [])  : ∀ (n : Nat) (x0 : Nat) (x1 : Nat) (x2 : Int32) (M : Mem9), J9 z N X out 3 2 [(0, .ref x0), (1, .ref x1), (2, .int x2)] [] M (0, 0) (fx9 (fun _ _ _ _ => none) (f_X1_copyFrom_b2 z ) n x0 x1 x2 M) := by
  intro n
  induction n with
  | zero => intro x0 x1 x2 M; exact j_none
  | succ n ih => intro x0 x1 x2 M; exact t_X1_copyFrom_b2 C  ih x0 x1 x2 M
def f_X1_copyFrom (z : Sh9) (a0 : Nat) (a1 : Nat) (M : Mem9) : Re9 :=
  (fx9 (fun _ _ _ _ => none) (f_X1_copyFrom_b2 z ) FU9 a0 a1 (0 : Int32) M)
set_option maxRecDepth 20000 in
set_option maxHeartbeats 4000000 in
theorem t_X1_copyFrom {z : Sh9} {N : Nv9} {X : Cx9} {out : Out9 × Mem9} (C : OK9 z N X out 3 (co9 out.1) cX1_copyFrom RX1 1 0 []) (a0 : Nat) (a1 : Nat) (M : Mem9) : J9 z N X out 3 0 [(0, .ref a0), (1, .ref a1)] [] M (0, 0) (f_X1_copyFrom z a0 a1 M) := by
  refine j_iconst (pc := 0) C dX1_copyFrom_0 (v := 0) rfl ?_
  refine j_istore_n (pc := 1) C dX1_copyFrom_1 (Nat.le_of_ble_eq_true rfl) (ls' := [(2, .int (0 : Int32)), (0, .ref a0), (1, .ref a1)]) rfl ?_
  refine j_loc [1, 2, 0] rfl ?_
  exact t_X1_copyFrom_l2 C  FU9 a0 a1 (0 : Int32) M
theorem sp_X1_copyFrom {l : Launch} {z : Sh9} {N : Nv9} {a0 : Nat} {a1 : Nat} {M : Mem9} {o : Out9 × Mem9} (hl : l.stackTraces = false) (h : f_X1_copyFrom z a0 a1 M = some o) : Sp9 l z N yX1_copyFrom (Cond.code yX1_copyFrom cX1_copyFrom 3 none) 1 [.ref a0, .ref a1] M (co9 o.1) o :=
  sp9_of (rk := 0) (own := RX1) (by decide +kernel) rfl (Or.inl ⟨rfl, rfl⟩) hl (Nat.le_of_ble_eq_true rfl) (fun X C => t_X1_copyFrom C a0 a1 M) h
def f_X1_lastCell (z : Sh9) (a0 : Nat) (a1 : Int32) (M : Mem9) : Re9 :=
  ((rf9 z a0 1 2).bind fun v1 => ((ld9 z M 10 v1 a1).bind fun v2 => ((rf9 z a0 1 1).bind fun v3 => ((ld9 z M 10 v3 a1).bind fun v4 => (ri9 ((v2 - v4) + (1 : Int32)) M)))))
set_option maxRecDepth 20000 in
set_option maxHeartbeats 4000000 in
theorem t_X1_lastCell {z : Sh9} {N : Nv9} {X : Cx9} {out : Out9 × Mem9} (C : OK9 z N X out 2 (co9 out.1) cX1_lastCell RX1 0 1 []) (a0 : Nat) (a1 : Int32) (M : Mem9) : J9 z N X out 2 0 [(0, .ref a0), (1, .int a1)] [] M (0, 0) (f_X1_lastCell z a0 a1 M) := by
  refine j_aload_n (pc := 0) C dX1_lastCell_0 rfl ?_
  refine j_getR (pc := 1) C dX1_lastCell_1 fl_X1_15 fr_X1_1 (fun v1 => ?_)
  refine j_iload_n (pc := 4) C dX1_lastCell_4 rfl ?_
  refine j_iaload (pc := 5) C dX1_lastCell_5 (fun v2 => ?_)
  refine j_aload_n (pc := 6) C dX1_lastCell_6 rfl ?_
  refine j_getR (pc := 7) C dX1_lastCell_7 fl_X1_9 fr_X1_0 (fun v3 => ?_)
  refine j_iload_n (pc := 10) C dX1_lastCell_10 rfl ?_
  refine j_iaload (pc := 11) C dX1_lastCell_11 (fun v4 => ?_)
  refine j_isub (pc := 12) C dX1_lastCell_12 ?_
  refine j_iconst (pc := 13) C dX1_lastCell_13 (v := 1) rfl ?_
  refine j_iadd (pc := 14) C dX1_lastCell_14 ?_
  exact j_ireturn (pc := 15) C rfl dX1_lastCell_15 ⟨Nat.zero_le _, Nat.zero_le _⟩
theorem sp_X1_lastCell {l : Launch} {z : Sh9} {N : Nv9} {a0 : Nat} {a1 : Int32} {M : Mem9} {o : Out9 × Mem9} (hl : l.stackTraces = false) (h : f_X1_lastCell z a0 a1 M = some o) : Sp9 l z N yX1_lastCell (Cond.code yX1_lastCell cX1_lastCell 2 (some .int)) 0 [.ref a0, .int a1] M (co9 o.1) o :=
  sp9_of (rk := 1) (own := RX1) (by decide +kernel) rfl (Or.inr (Or.inl ⟨rfl, rfl⟩)) hl (Nat.le_of_ble_eq_true rfl) (fun X C => t_X1_lastCell C a0 a1 M) h
def f_X1_addVehicle_b57 (z : Sh9)  (x0 : Nat) (x2 : Int32) (x3 : Int32) (x4 : Int32) (s0 : Int32) (s1 : Int32) (s2 : Nat) (M : Mem9) : Re9 :=
  ((st9 z M s2 s1 s0).bind fun M10 => ((rf9 z x0 1 3).bind fun v11 => ((sz9 z M10 v11 x4 x2).bind fun M12 => ((rf9 z x0 1 4).bind fun v13 => ((sz9 z M12 v13 x4 x3).bind fun M14 => ((rf9 z x0 1 5).bind fun v15 => ((sz9 z M14 v15 x4 (0 : Int32)).bind fun M16 => ((gf9 z M16 x0 1 5).bind fun v17 => ((pf9 z M16 x0 1 5 (v17 + (1 : Int32))).bind fun M18 => (rz9 (1 : Int32) M18))))))))))
set_option maxRecDepth 20000 in
set_option maxHeartbeats 4000000 in
theorem t_X1_addVehicle_b57 {z : Sh9} {N : Nv9} {X : Cx9} {out : Out9 × Mem9} (C : OK9 z N X out 5 (co9 out.1) cX1_addVehicle RX1 1 2 [])  (x0 : Nat) (x2 : Int32) (x3 : Int32) (x4 : Int32) (s0 : Int32) (s1 : Int32) (s2 : Nat) (M : Mem9) : J9 z N X out 5 57 [(0, .ref x0), (2, .int x2), (3, .int x3), (4, .int x4)] [.int s0, .int s1, .ref s2] M (0, 0) (f_X1_addVehicle_b57 z  x0 x2 x3 x4 s0 s1 s2 M) := by
  refine j_iastore (pc := 57) C dX1_addVehicle_57 (fun M10 => ?_)
  refine j_aload_n (pc := 58) C dX1_addVehicle_58 rfl ?_
  refine j_getR (pc := 59) C dX1_addVehicle_59 fl_X1_18 fr_X1_2 (fun v11 => ?_)
  refine j_iload (pc := 62) C dX1_addVehicle_62 rfl ?_
  refine j_iload_n (pc := 64) C dX1_addVehicle_64 rfl ?_
  refine j_bastore (pc := 65) C dX1_addVehicle_65 (fun M12 => ?_)
  refine j_aload_n (pc := 66) C dX1_addVehicle_66 rfl ?_
  refine j_getR (pc := 67) C dX1_addVehicle_67 fl_X1_22 fr_X1_3 (fun v13 => ?_)
  refine j_iload (pc := 70) C dX1_addVehicle_70 rfl ?_
  refine j_iload_n (pc := 72) C dX1_addVehicle_72 rfl ?_
  refine j_bastore (pc := 73) C dX1_addVehicle_73 (fun M14 => ?_)
  refine j_aload_n (pc := 74) C dX1_addVehicle_74 rfl ?_
  refine j_getR (pc := 75) C dX1_addVehicle_75 fl_X1_25 fr_X1_4 (fun v15 => ?_)
  refine j_iload (pc := 78) C dX1_addVehicle_78 rfl ?_
  refine j_iconst (pc := 80) C dX1_addVehicle_80 (v := 0) rfl ?_
  refine j_bastore (pc := 81) C dX1_addVehicle_81 (fun M16 => ?_)
  refine j_aload_n (pc := 82) C dX1_addVehicle_82 rfl ?_
  refine j_dup (pc := 83) C dX1_addVehicle_83 rfl ?_
  refine j_getI (pc := 84) C dX1_addVehicle_84 fl_X1_31 fi_X1_5 (fun v17 => ?_)
  refine j_iconst (pc := 87) C dX1_addVehicle_87 (v := 1) rfl ?_
  refine j_iadd (pc := 88) C dX1_addVehicle_88 ?_
  refine j_putI (pc := 89) C dX1_addVehicle_89 fl_X1_31 fi_X1_5 rfl rfl (fun M18 => ?_)
  refine j_iconst (pc := 92) C dX1_addVehicle_92 (v := 1) rfl ?_
  exact j_zreturn (pc := 93) C rfl dX1_addVehicle_93 ⟨Nat.zero_le _, Nat.zero_le _⟩
def f_X1_addVehicle (z : Sh9) (a0 : Nat) (a1 : Int32) (a2 : Int32) (a3 : Int32) (M : Mem9) : Re9 :=
  ((gf9 z M a0 1 5).bind fun v1 => (if v1 < 0 then (rz9 (0 : Int32) M) else (if v1 < (6 : Int32) then ((rf9 z a0 1 1).bind fun v2 => ((st9 z M v2 v1 a1).bind fun M3 => ((rf9 z a0 1 2).bind fun v4 => (if v1 = 0 then (f_X1_addVehicle_b57 z  a0 a2 a3 v1 (-1 : Int32) v1 v4 M3) else (bi9 (iv9 z a0 1 (f_X1_lastCell z a0 (v1 - (1 : Int32)) M3)) fun v6 M5 => (f_X1_addVehicle_b57 z  a0 a2 a3 v1 (if (v6 - (2 : Int32)) < (-1 : Int32) then (v6 - (2 : Int32)) else (-1 : Int32)) v1 v4 M5)))))) else (rz9 (0 : Int32) M))))
set_option maxRecDepth 20000 in
set_option maxHeartbeats 4000000 in
theorem t_X1_addVehicle {z : Sh9} {N : Nv9} {X : Cx9} {out : Out9 × Mem9} (C : OK9 z N X out 5 (co9 out.1) cX1_addVehicle RX1 1 2 []) (a0 : Nat) (a1 : Int32) (a2 : Int32) (a3 : Int32) (M : Mem9) : J9 z N X out 5 0 [(0, .ref a0), (1, .int a1), (2, .int a2), (3, .int a3)] [] M (0, 0) (f_X1_addVehicle z a0 a1 a2 a3 M) := by
  refine j_aload_n (pc := 0) C dX1_addVehicle_0 rfl ?_
  refine j_getI (pc := 1) C dX1_addVehicle_1 fl_X1_31 fi_X1_5 (fun v1 => ?_)
  refine j_istore (pc := 4) C dX1_addVehicle_4 (Nat.le_of_ble_eq_true rfl) (ls' := [(4, .int v1), (0, .ref a0), (1, .int a1), (2, .int a2), (3, .int a3)]) rfl ?_
  refine j_iload (pc := 6) C dX1_addVehicle_6 rfl ?_
  refine j_if_lt (pc := 8) C dX1_addVehicle_8 (tgt := 18) (by decide) (fun hc9 => ?_) (fun hc9 => ?_)
  · refine j_iconst (pc := 18) C dX1_addVehicle_18 (v := 0) rfl ?_
    exact j_zreturn (pc := 19) C rfl dX1_addVehicle_19 ⟨Nat.zero_le _, Nat.zero_le _⟩
  · refine j_iload (pc := 11) C dX1_addVehicle_11 rfl ?_
    refine j_bipush (pc := 13) C dX1_addVehicle_13 (v := 6) rfl ?_
    refine j_icmp_lt (pc := 15) C dX1_addVehicle_15 (tgt := 20) (by decide) (fun hc8 => ?_) (fun hc8 => ?_)
    · refine j_aload_n (pc := 20) C dX1_addVehicle_20 rfl ?_
      refine j_getR (pc := 21) C dX1_addVehicle_21 fl_X1_9 fr_X1_0 (fun v2 => ?_)
      refine j_iload (pc := 24) C dX1_addVehicle_24 rfl ?_
      refine j_iload_n (pc := 26) C dX1_addVehicle_26 rfl ?_
      refine j_iastore (pc := 27) C dX1_addVehicle_27 (fun M3 => ?_)
      refine j_aload_n (pc := 28) C dX1_addVehicle_28 rfl ?_
      refine j_getR (pc := 29) C dX1_addVehicle_29 fl_X1_15 fr_X1_1 (fun v4 => ?_)
      refine j_iload (pc := 32) C dX1_addVehicle_32 rfl ?_
      refine j_iload (pc := 34) C dX1_addVehicle_34 rfl ?_
      refine j_if_ne (pc := 36) C dX1_addVehicle_36 (tgt := 43) (by decide) (fun hc7 => ?_) (fun hc7 => ?_)
      · refine j_iconst (pc := 43) C dX1_addVehicle_43 (v := -1) rfl ?_
        refine j_aload_n (pc := 44) C dX1_addVehicle_44 rfl ?_
        refine j_iload (pc := 45) C dX1_addVehicle_45 rfl ?_
        refine j_iconst (pc := 47) C dX1_addVehicle_47 (v := 1) rfl ?_
        refine j_isub (pc := 48) C dX1_addVehicle_48 ?_
        refine j_callVi (pc := 49) C rfl dX1_addVehicle_49 lv_X1_73 rfl (Nat.le_of_ble_eq_true rfl) (Nat.le_of_ble_eq_true rfl) (by decide) (Or.inl rfl) ⟨Nat.le_refl _, Nat.le_refl _⟩ (fun l hl o ho => sp_X1_lastCell hl ho) (fun v6 M5 => ?_)
        refine j_iconst (pc := 52) C dX1_addVehicle_52 (v := 2) rfl ?_
        refine j_isub (pc := 53) C dX1_addVehicle_53 ?_
        refine j_min (pc := 54) C dX1_addVehicle_54 w9_357 w9_358 w9_38 w9_359 (by decide) (Nat.le_of_ble_eq_true rfl) ⟨Nat.zero_le _, Nat.zero_le _⟩ ?_
        refine j_loc [1, 3, 4, 0] rfl ?_
        exact t_X1_addVehicle_b57 C  a0 a2 a3 v1 (if (v6 - (2 : Int32)) < (-1 : Int32) then (v6 - (2 : Int32)) else (-1 : Int32)) v1 v4 M5
      · refine j_iconst (pc := 39) C dX1_addVehicle_39 (v := -1) rfl ?_
        refine j_goto (pc := 40) C dX1_addVehicle_40 (tgt := 57) (by decide) ?_
        refine j_loc [1, 3, 4, 0] rfl ?_
        exact t_X1_addVehicle_b57 C  a0 a2 a3 v1 (-1 : Int32) v1 v4 M3
    · refine j_iconst (pc := 18) C dX1_addVehicle_18 (v := 0) rfl ?_
      exact j_zreturn (pc := 19) C rfl dX1_addVehicle_19 ⟨Nat.zero_le _, Nat.zero_le _⟩
theorem sp_X1_addVehicle {l : Launch} {z : Sh9} {N : Nv9} {a0 : Nat} {a1 : Int32} {a2 : Int32} {a3 : Int32} {M : Mem9} {o : Out9 × Mem9} (hl : l.stackTraces = false) (h : f_X1_addVehicle z a0 a1 a2 a3 M = some o) : Sp9 l z N yX1_addVehicle (Cond.code yX1_addVehicle cX1_addVehicle 5 (some .boolean)) 1 [.ref a0, .int a1, .int a2, .int a3] M (co9 o.1) o :=
  sp9_of (rk := 2) (own := RX1) (by decide +kernel) rfl (Or.inr (Or.inr (Or.inl ⟨rfl, rfl⟩))) hl (Nat.le_of_ble_eq_true rfl) (fun X C => t_X1_addVehicle C a0 a1 a2 a3 M) h
def f_X1_hasVehicle (z : Sh9) (a0 : Nat) (a1 : Int32) (M : Mem9) : Re9 :=
  (if a1 < 0 then (rz9 (0 : Int32) M) else ((gf9 z M a0 1 5).bind fun v1 => (if v1 ≤ a1 then (rz9 (0 : Int32) M) else (if (6 : Int32) ≤ a1 then (rz9 (0 : Int32) M) else (rz9 (1 : Int32) M)))))
set_option maxRecDepth 20000 in
set_option maxHeartbeats 4000000 in
theorem t_X1_hasVehicle {z : Sh9} {N : Nv9} {X : Cx9} {out : Out9 × Mem9} (C : OK9 z N X out 2 (co9 out.1) cX1_hasVehicle RX1 0 2 []) (a0 : Nat) (a1 : Int32) (M : Mem9) : J9 z N X out 2 0 [(0, .ref a0), (1, .int a1)] [] M (0, 0) (f_X1_hasVehicle z a0 a1 M) := by
  refine j_iload_n (pc := 0) C dX1_hasVehicle_0 rfl ?_
  refine j_if_lt (pc := 1) C dX1_hasVehicle_1 (tgt := 22) (by decide) (fun hc4 => ?_) (fun hc4 => ?_)
  · refine j_iconst (pc := 22) C dX1_hasVehicle_22 (v := 0) rfl ?_
    exact j_zreturn (pc := 23) C rfl dX1_hasVehicle_23 ⟨Nat.zero_le _, Nat.zero_le _⟩
  · refine j_iload_n (pc := 4) C dX1_hasVehicle_4 rfl ?_
    refine j_aload_n (pc := 5) C dX1_hasVehicle_5 rfl ?_
    refine j_getI (pc := 6) C dX1_hasVehicle_6 fl_X1_31 fi_X1_5 (fun v1 => ?_)
    refine j_icmp_ge (pc := 9) C dX1_hasVehicle_9 (tgt := 22) (by decide) (fun hc3 => ?_) (fun hc3 => ?_)
    · refine j_iconst (pc := 22) C dX1_hasVehicle_22 (v := 0) rfl ?_
      exact j_zreturn (pc := 23) C rfl dX1_hasVehicle_23 ⟨Nat.zero_le _, Nat.zero_le _⟩
    · refine j_iload_n (pc := 12) C dX1_hasVehicle_12 rfl ?_
      refine j_bipush (pc := 13) C dX1_hasVehicle_13 (v := 6) rfl ?_
      refine j_icmp_ge (pc := 15) C dX1_hasVehicle_15 (tgt := 22) (by decide) (fun hc2 => ?_) (fun hc2 => ?_)
      · refine j_iconst (pc := 22) C dX1_hasVehicle_22 (v := 0) rfl ?_
        exact j_zreturn (pc := 23) C rfl dX1_hasVehicle_23 ⟨Nat.zero_le _, Nat.zero_le _⟩
      · refine j_iconst (pc := 18) C dX1_hasVehicle_18 (v := 1) rfl ?_
        refine j_goto (pc := 19) C dX1_hasVehicle_19 (tgt := 23) (by decide) ?_
        exact j_zreturn (pc := 23) C rfl dX1_hasVehicle_23 ⟨Nat.zero_le _, Nat.zero_le _⟩
theorem sp_X1_hasVehicle {l : Launch} {z : Sh9} {N : Nv9} {a0 : Nat} {a1 : Int32} {M : Mem9} {o : Out9 × Mem9} (hl : l.stackTraces = false) (h : f_X1_hasVehicle z a0 a1 M = some o) : Sp9 l z N yX1_hasVehicle (Cond.code yX1_hasVehicle cX1_hasVehicle 2 (some .boolean)) 0 [.ref a0, .int a1] M (co9 o.1) o :=
  sp9_of (rk := 2) (own := RX1) (by decide +kernel) rfl (Or.inr (Or.inr (Or.inl ⟨rfl, rfl⟩))) hl (Nat.le_of_ble_eq_true rfl) (fun X C => t_X1_hasVehicle C a0 a1 M) h
def f_X1_hasGoneThrough (z : Sh9) (a0 : Nat) (a1 : Int32) (M : Mem9) : Re9 :=
  (bi9 (iv9 z a0 1 (f_X1_hasVehicle z a0 a1 M)) fun v2 M1 => (if v2 = 0 then (rz9 (0 : Int32) M1) else (bi9 (iv9 z a0 1 (f_X1_lastCell z a0 a1 M1)) fun v4 M3 => (if v4 < (21 : Int32) then (rz9 (0 : Int32) M3) else (rz9 (1 : Int32) M3)))))
set_option maxRecDepth 20000 in
set_option maxHeartbeats 4000000 in
theorem t_X1_hasGoneThrough {z : Sh9} {N : Nv9} {X : Cx9} {out : Out9 × Mem9} (C : OK9 z N X out 2 (co9 out.1) cX1_hasGoneThrough RX1 1 2 []) (a0 : Nat) (a1 : Int32) (M : Mem9) : J9 z N X out 2 0 [(0, .ref a0), (1, .int a1)] [] M (0, 0) (f_X1_hasGoneThrough z a0 a1 M) := by
  refine j_aload_n (pc := 0) C dX1_hasGoneThrough_0 rfl ?_
  refine j_iload_n (pc := 1) C dX1_hasGoneThrough_1 rfl ?_
  refine j_callVi (pc := 2) C rfl dX1_hasGoneThrough_2 lv_X1_127 rfl (Nat.le_of_ble_eq_true rfl) (Nat.le_of_ble_eq_true rfl) (by decide) (Or.inl rfl) ⟨Nat.le_refl _, Nat.le_refl _⟩ (fun l hl o ho => sp_X1_hasVehicle hl ho) (fun v2 M1 => ?_)
  refine j_if_eq (pc := 5) C dX1_hasGoneThrough_5 (tgt := 22) (by decide) (fun hc6 => ?_) (fun hc6 => ?_)
  · refine j_iconst (pc := 22) C dX1_hasGoneThrough_22 (v := 0) rfl ?_
    exact j_zreturn (pc := 23) C rfl dX1_hasGoneThrough_23 ⟨Nat.zero_le _, Nat.zero_le _⟩
  · refine j_aload_n (pc := 8) C dX1_hasGoneThrough_8 rfl ?_
    refine j_iload_n (pc := 9) C dX1_hasGoneThrough_9 rfl ?_
    refine j_callVi (pc := 10) C rfl dX1_hasGoneThrough_10 lv_X1_73 rfl (Nat.le_of_ble_eq_true rfl) (Nat.le_of_ble_eq_true rfl) (by decide) (Or.inl rfl) ⟨Nat.le_refl _, Nat.le_refl _⟩ (fun l hl o ho => sp_X1_lastCell hl ho) (fun v4 M3 => ?_)
    refine j_bipush (pc := 13) C dX1_hasGoneThrough_13 (v := 21) rfl ?_
    refine j_icmp_lt (pc := 15) C dX1_hasGoneThrough_15 (tgt := 22) (by decide) (fun hc5 => ?_) (fun hc5 => ?_)
    · refine j_iconst (pc := 22) C dX1_hasGoneThrough_22 (v := 0) rfl ?_
      exact j_zreturn (pc := 23) C rfl dX1_hasGoneThrough_23 ⟨Nat.zero_le _, Nat.zero_le _⟩
    · refine j_iconst (pc := 18) C dX1_hasGoneThrough_18 (v := 1) rfl ?_
      refine j_goto (pc := 19) C dX1_hasGoneThrough_19 (tgt := 23) (by decide) ?_
      exact j_zreturn (pc := 23) C rfl dX1_hasGoneThrough_23 ⟨Nat.zero_le _, Nat.zero_le _⟩
theorem sp_X1_hasGoneThrough {l : Launch} {z : Sh9} {N : Nv9} {a0 : Nat} {a1 : Int32} {M : Mem9} {o : Out9 × Mem9} (hl : l.stackTraces = false) (h : f_X1_hasGoneThrough z a0 a1 M = some o) : Sp9 l z N yX1_hasGoneThrough (Cond.code yX1_hasGoneThrough cX1_hasGoneThrough 2 (some .boolean)) 1 [.ref a0, .int a1] M (co9 o.1) o :=
  sp9_of (rk := 2) (own := RX1) (by decide +kernel) rfl (Or.inr (Or.inr (Or.inl ⟨rfl, rfl⟩))) hl (Nat.le_of_ble_eq_true rfl) (fun X C => t_X1_hasGoneThrough C a0 a1 M) h
def f_X1_vehicleInCheck_b2 (z : Sh9) (r2 : Nat → Int32 → Mem9 → Re9) (x0 : Nat) (x1 : Int32) (M : Mem9) : Re9 :=
  ((gf9 z M x0 1 5).bind fun v1 => (if v1 ≤ x1 then (ri9 (-1 : Int32) M) else ((rf9 z x0 1 2).bind fun v2 => ((ld9 z M 10 v2 x1).bind fun v3 => (if v3 = (19 : Int32) then ((rf9 z x0 1 5).bind fun v4 => ((ld9 z M 11 v4 x1).bind fun v5 => (if v5 = 0 then (ri9 x1 M) else (r2 x0 (x1 + (1 : Int32)) M)))) else (r2 x0 (x1 + (1 : Int32)) M))))))
set_option maxRecDepth 20000 in
set_option maxHeartbeats 4000000 in
theorem t_X1_vehicleInCheck_b2 {z : Sh9} {N : Nv9} {X : Cx9} {out : Out9 × Mem9} (C : OK9 z N X out 2 (co9 out.1) cX1_vehicleInCheck RX1 0 1 []) {r2 : Nat → Int32 → Mem9 → Re9} (h2 : ∀ (x0 : Nat) (x1 : Int32) (M : Mem9), J9 z N X out 2 2 [(0, .ref x0), (1, .int x1)] [] M (0, 0) (r2 x0 x1 M)) (x0 : Nat) (x1 : Int32) (M : Mem9) : J9 z N X out 2 2 [(0, .ref x0), (1, .int x1)] [] M (0, 0) (f_X1_vehicleInCheck_b2 z r2 x0 x1 M) := by
  refine j_iload_n (pc := 2) C dX1_vehicleInCheck_2 rfl ?_
  refine j_aload_n (pc := 3) C dX1_vehicleInCheck_3 rfl ?_
  refine j_getI (pc := 4) C dX1_vehicleInCheck_4 fl_X1_31 fi_X1_5 (fun v1 => ?_)
  refine j_icmp_ge (pc := 7) C dX1_vehicleInCheck_7 (tgt := 38) (by decide) (fun hc8 => ?_) (fun hc8 => ?_)
  · refine j_iconst (pc := 38) C dX1_vehicleInCheck_38 (v := -1) rfl ?_
    exact j_ireturn (pc := 39) C rfl dX1_vehicleInCheck_39 ⟨Nat.zero_le _, Nat.zero_le _⟩
  · refine j_aload_n (pc := 10) C dX1_vehicleInCheck_10 rfl ?_
    refine j_getR (pc := 11) C dX1_vehicleInCheck_11 fl_X1_15 fr_X1_1 (fun v2 => ?_)
    refine j_iload_n (pc := 14) C dX1_vehicleInCheck_14 rfl ?_
    refine j_iaload (pc := 15) C dX1_vehicleInCheck_15 (fun v3 => ?_)
    refine j_bipush (pc := 16) C dX1_vehicleInCheck_16 (v := 19) rfl ?_
    refine j_icmp_ne (pc := 18) C dX1_vehicleInCheck_18 (tgt := 32) (by decide) (fun hc7 => ?_) (fun hc7 => ?_)
    · refine j_iinc (pc := 32) C dX1_vehicleInCheck_32 rfl (v := (x1 + (1 : Int32))) rfl (Nat.le_of_ble_eq_true rfl) (ls' := [(1, .int (x1 + (1 : Int32))), (0, .ref x0)]) rfl ?_
      refine j_goto (pc := 35) C dX1_vehicleInCheck_35 (tgt := 2) (by decide) ?_
      refine j_loc [1, 0] rfl ?_
      exact h2 x0 (x1 + (1 : Int32)) M
    · refine j_aload_n (pc := 21) C dX1_vehicleInCheck_21 rfl ?_
      refine j_getR (pc := 22) C dX1_vehicleInCheck_22 fl_X1_25 fr_X1_4 (fun v4 => ?_)
      refine j_iload_n (pc := 25) C dX1_vehicleInCheck_25 rfl ?_
      refine j_baload (pc := 26) C dX1_vehicleInCheck_26 (fun v5 => ?_)
      refine j_if_ne (pc := 27) C dX1_vehicleInCheck_27 (tgt := 32) (by decide) (fun hc6 => ?_) (fun hc6 => ?_)
      · refine j_iinc (pc := 32) C dX1_vehicleInCheck_32 rfl (v := (x1 + (1 : Int32))) rfl (Nat.le_of_ble_eq_true rfl) (ls' := [(1, .int (x1 + (1 : Int32))), (0, .ref x0)]) rfl ?_
        refine j_goto (pc := 35) C dX1_vehicleInCheck_35 (tgt := 2) (by decide) ?_
        refine j_loc [1, 0] rfl ?_
        exact h2 x0 (x1 + (1 : Int32)) M
      · refine j_iload_n (pc := 30) C dX1_vehicleInCheck_30 rfl ?_
        exact j_ireturn (pc := 31) C rfl dX1_vehicleInCheck_31 ⟨Nat.zero_le _, Nat.zero_le _⟩
theorem t_X1_vehicleInCheck_l2 {z : Sh9} {N : Nv9} {X : Cx9} {out : Out9 × Mem9} (C : OK9 z N X out 2 (co9 out.1) cX1_vehicleInCheck RX1 0 1 [])  : ∀ (n : Nat) (x0 : Nat) (x1 : Int32) (M : Mem9), J9 z N X out 2 2 [(0, .ref x0), (1, .int x1)] [] M (0, 0) (fx9 (fun _ _ _ => none) (f_X1_vehicleInCheck_b2 z ) n x0 x1 M) := by
  intro n
  induction n with
  | zero => intro x0 x1 M; exact j_none
  | succ n ih => intro x0 x1 M; exact t_X1_vehicleInCheck_b2 C  ih x0 x1 M
def f_X1_vehicleInCheck (z : Sh9) (a0 : Nat) (M : Mem9) : Re9 :=
  (fx9 (fun _ _ _ => none) (f_X1_vehicleInCheck_b2 z ) FU9 a0 (0 : Int32) M)
set_option maxRecDepth 20000 in
set_option maxHeartbeats 4000000 in
theorem t_X1_vehicleInCheck {z : Sh9} {N : Nv9} {X : Cx9} {out : Out9 × Mem9} (C : OK9 z N X out 2 (co9 out.1) cX1_vehicleInCheck RX1 0 1 []) (a0 : Nat) (M : Mem9) : J9 z N X out 2 0 [(0, .ref a0)] [] M (0, 0) (f_X1_vehicleInCheck z a0 M) := by
  refine j_iconst (pc := 0) C dX1_vehicleInCheck_0 (v := 0) rfl ?_
  refine j_istore_n (pc := 1) C dX1_vehicleInCheck_1 (Nat.le_of_ble_eq_true rfl) (ls' := [(1, .int (0 : Int32)), (0, .ref a0)]) rfl ?_
  refine j_loc [1, 0] rfl ?_
  exact t_X1_vehicleInCheck_l2 C  FU9 a0 (0 : Int32) M
theorem sp_X1_vehicleInCheck {l : Launch} {z : Sh9} {N : Nv9} {a0 : Nat} {M : Mem9} {o : Out9 × Mem9} (hl : l.stackTraces = false) (h : f_X1_vehicleInCheck z a0 M = some o) : Sp9 l z N yX1_vehicleInCheck (Cond.code yX1_vehicleInCheck cX1_vehicleInCheck 2 (some .int)) 0 [.ref a0] M (co9 o.1) o :=
  sp9_of (rk := 1) (own := RX1) (by decide +kernel) rfl (Or.inr (Or.inl ⟨rfl, rfl⟩)) hl (Nat.le_of_ble_eq_true rfl) (fun X C => t_X1_vehicleInCheck C a0 M) h
def f_X1_checkTicket_b47 (z : Sh9)  (x0 : Nat) (x3 : Int32) (x4 : Int32) (s0 : Int32) (s1 : Int32) (M : Mem9) : Re9 :=
  (if s1 < s0 then (rv9 M) else ((rf9 z x0 1 5).bind fun v11 => ((sz9 z M v11 x4 (1 : Int32)).bind fun M12 => ((gf9 z M12 x0 1 8).bind fun v13 => ((dv9 v13 (8 : Int32)).bind fun v14 => ((pf9 z M12 x0 1 7 (v14 + x3)).bind fun M15 => ((pf9 z M15 x0 1 9 (0 : Int32)).bind fun M16 => ((rf9 z x0 1 3).bind fun v17 => ((ld9 z M16 11 v17 x4).bind fun v18 => (if v18 = 0 then (rv9 M16) else ((gf9 z M16 x0 1 16).bind fun v19 => ((pf9 z M16 x0 1 16 (v19 + (1 : Int32))).bind fun M20 => (rv9 M20)))))))))))))
set_option maxRecDepth 20000 in
set_option maxHeartbeats 4000000 in
theorem t_X1_checkTicket_b47 {z : Sh9} {N : Nv9} {X : Cx9} {out : Out9 × Mem9} (C : OK9 z N X out 5 (co9 out.1) cX1_checkTicket RX1 1 0 [])  (x0 : Nat) (x3 : Int32) (x4 : Int32) (s0 : Int32) (s1 : Int32) (M : Mem9) : J9 z N X out 5 47 [(0, .ref x0), (3, .int x3), (4, .int x4)] [.int s0, .int s1] M (0, 0) (f_X1_checkTicket_b47 z  x0 x3 x4 s0 s1 M) := by
  refine j_icmp_lt (pc := 47) C dX1_checkTicket_47 (tgt := 96) (by decide) (fun hc22 => ?_) (fun hc22 => ?_)
  · exact j_return (pc := 96) C rfl dX1_checkTicket_96 ⟨Nat.zero_le _, Nat.zero_le _⟩
  · refine j_aload_n (pc := 50) C dX1_checkTicket_50 rfl ?_
    refine j_getR (pc := 51) C dX1_checkTicket_51 fl_X1_25 fr_X1_4 (fun v11 => ?_)
    refine j_iload (pc := 54) C dX1_checkTicket_54 rfl ?_
    refine j_iconst (pc := 56) C dX1_checkTicket_56 (v := 1) rfl ?_
    refine j_bastore (pc := 57) C dX1_checkTicket_57 (fun M12 => ?_)
    refine j_aload_n (pc := 58) C dX1_checkTicket_58 rfl ?_
    refine j_aload_n (pc := 59) C dX1_checkTicket_59 rfl ?_
    refine j_getI (pc := 60) C dX1_checkTicket_60 fl_X1_41 fi_X1_8 (fun v13 => ?_)
    refine j_bipush (pc := 63) C dX1_checkTicket_63 (v := 8) rfl ?_
    refine j_idiv (pc := 65) C dX1_checkTicket_65 (fun v14 => ?_)
    refine j_iload_n (pc := 66) C dX1_checkTicket_66 rfl ?_
    refine j_iadd (pc := 67) C dX1_checkTicket_67 ?_
    refine j_putI (pc := 68) C dX1_checkTicket_68 fl_X1_38 fi_X1_7 rfl rfl (fun M15 => ?_)
    refine j_aload_n (pc := 71) C dX1_checkTicket_71 rfl ?_
    refine j_iconst (pc := 72) C dX1_checkTicket_72 (v := 0) rfl ?_
    refine j_putI (pc := 73) C dX1_checkTicket_73 fl_X1_44 fi_X1_9 rfl rfl (fun M16 => ?_)
    refine j_aload_n (pc := 76) C dX1_checkTicket_76 rfl ?_
    refine j_getR (pc := 77) C dX1_checkTicket_77 fl_X1_18 fr_X1_2 (fun v17 => ?_)
    refine j_iload (pc := 80) C dX1_checkTicket_80 rfl ?_
    refine j_baload (pc := 82) C dX1_checkTicket_82 (fun v18 => ?_)
    refine j_if_eq (pc := 83) C dX1_checkTicket_83 (tgt := 96) (by decide) (fun hc21 => ?_) (fun hc21 => ?_)
    · exact j_return (pc := 96) C rfl dX1_checkTicket_96 ⟨Nat.zero_le _, Nat.zero_le _⟩
    · refine j_aload_n (pc := 86) C dX1_checkTicket_86 rfl ?_
      refine j_dup (pc := 87) C dX1_checkTicket_87 rfl ?_
      refine j_getI (pc := 88) C dX1_checkTicket_88 fl_X1_66 fi_X1_16 (fun v19 => ?_)
      refine j_iconst (pc := 91) C dX1_checkTicket_91 (v := 1) rfl ?_
      refine j_iadd (pc := 92) C dX1_checkTicket_92 ?_
      refine j_putI (pc := 93) C dX1_checkTicket_93 fl_X1_66 fi_X1_16 rfl rfl (fun M20 => ?_)
      exact j_return (pc := 96) C rfl dX1_checkTicket_96 ⟨Nat.zero_le _, Nat.zero_le _⟩
def f_X1_checkTicket (z : Sh9) (a0 : Nat) (a1 : Int32) (a2 : Int32) (a3 : Int32) (M : Mem9) : Re9 :=
  (bi9 (iv9 z a0 1 (f_X1_vehicleInCheck z a0  M)) fun v2 M1 => (if v2 = (-1 : Int32) then ((pf9 z M1 a0 1 9 (0 : Int32)).bind fun M9 => (rv9 M9)) else ((gf9 z M1 a0 1 9).bind fun v3 => ((pf9 z M1 a0 1 9 (v3 + (1 : Int32))).bind fun M4 => ((gf9 z M4 a0 1 9).bind fun v5 => ((rf9 z a0 1 3).bind fun v6 => ((ld9 z M4 11 v6 v2).bind fun v7 => (if v7 = 0 then (f_X1_checkTicket_b47 z  a0 a3 v2 a1 v5 M4) else (f_X1_checkTicket_b47 z  a0 a3 v2 a2 v5 M4)))))))))
set_option maxRecDepth 20000 in
set_option maxHeartbeats 4000000 in
theorem t_X1_checkTicket {z : Sh9} {N : Nv9} {X : Cx9} {out : Out9 × Mem9} (C : OK9 z N X out 5 (co9 out.1) cX1_checkTicket RX1 1 0 []) (a0 : Nat) (a1 : Int32) (a2 : Int32) (a3 : Int32) (M : Mem9) : J9 z N X out 5 0 [(0, .ref a0), (1, .int a1), (2, .int a2), (3, .int a3)] [] M (0, 0) (f_X1_checkTicket z a0 a1 a2 a3 M) := by
  refine j_aload_n (pc := 0) C dX1_checkTicket_0 rfl ?_
  refine j_callVi (pc := 1) C rfl dX1_checkTicket_1 lv_X1_111 rfl (Nat.le_of_ble_eq_true rfl) (Nat.le_of_ble_eq_true rfl) (by decide) (Or.inl rfl) ⟨Nat.le_refl _, Nat.le_refl _⟩ (fun l hl o ho => sp_X1_vehicleInCheck hl ho) (fun v2 M1 => ?_)
  refine j_istore (pc := 4) C dX1_checkTicket_4 (Nat.le_of_ble_eq_true rfl) (ls' := [(4, .int v2), (0, .ref a0), (1, .int a1), (2, .int a2), (3, .int a3)]) rfl ?_
  refine j_iload (pc := 6) C dX1_checkTicket_6 rfl ?_
  refine j_iconst (pc := 8) C dX1_checkTicket_8 (v := -1) rfl ?_
  refine j_icmp_ne (pc := 9) C dX1_checkTicket_9 (tgt := 18) (by decide) (fun hc10 => ?_) (fun hc10 => ?_)
  · refine j_aload_n (pc := 18) C dX1_checkTicket_18 rfl ?_
    refine j_dup (pc := 19) C dX1_checkTicket_19 rfl ?_
    refine j_getI (pc := 20) C dX1_checkTicket_20 fl_X1_44 fi_X1_9 (fun v3 => ?_)
    refine j_iconst (pc := 23) C dX1_checkTicket_23 (v := 1) rfl ?_
    refine j_iadd (pc := 24) C dX1_checkTicket_24 ?_
    refine j_putI (pc := 25) C dX1_checkTicket_25 fl_X1_44 fi_X1_9 rfl rfl (fun M4 => ?_)
    refine j_aload_n (pc := 28) C dX1_checkTicket_28 rfl ?_
    refine j_getI (pc := 29) C dX1_checkTicket_29 fl_X1_44 fi_X1_9 (fun v5 => ?_)
    refine j_aload_n (pc := 32) C dX1_checkTicket_32 rfl ?_
    refine j_getR (pc := 33) C dX1_checkTicket_33 fl_X1_18 fr_X1_2 (fun v6 => ?_)
    refine j_iload (pc := 36) C dX1_checkTicket_36 rfl ?_
    refine j_baload (pc := 38) C dX1_checkTicket_38 (fun v7 => ?_)
    refine j_if_eq (pc := 39) C dX1_checkTicket_39 (tgt := 46) (by decide) (fun hc8 => ?_) (fun hc8 => ?_)
    · refine j_iload_n (pc := 46) C dX1_checkTicket_46 rfl ?_
      refine j_loc [1, 4, 0] rfl ?_
      exact t_X1_checkTicket_b47 C  a0 a3 v2 a1 v5 M4
    · refine j_iload_n (pc := 42) C dX1_checkTicket_42 rfl ?_
      refine j_goto (pc := 43) C dX1_checkTicket_43 (tgt := 47) (by decide) ?_
      refine j_loc [1, 4, 0] rfl ?_
      exact t_X1_checkTicket_b47 C  a0 a3 v2 a2 v5 M4
  · refine j_aload_n (pc := 12) C dX1_checkTicket_12 rfl ?_
    refine j_iconst (pc := 13) C dX1_checkTicket_13 (v := 0) rfl ?_
    refine j_putI (pc := 14) C dX1_checkTicket_14 fl_X1_44 fi_X1_9 rfl rfl (fun M9 => ?_)
    exact j_return (pc := 17) C rfl dX1_checkTicket_17 ⟨Nat.zero_le _, Nat.zero_le _⟩
theorem sp_X1_checkTicket {l : Launch} {z : Sh9} {N : Nv9} {a0 : Nat} {a1 : Int32} {a2 : Int32} {a3 : Int32} {M : Mem9} {o : Out9 × Mem9} (hl : l.stackTraces = false) (h : f_X1_checkTicket z a0 a1 a2 a3 M = some o) : Sp9 l z N yX1_checkTicket (Cond.code yX1_checkTicket cX1_checkTicket 5 none) 1 [.ref a0, .int a1, .int a2, .int a3] M (co9 o.1) o :=
  sp9_of (rk := 0) (own := RX1) (by decide +kernel) rfl (Or.inl ⟨rfl, rfl⟩) hl (Nat.le_of_ble_eq_true rfl) (fun X C => t_X1_checkTicket C a0 a1 a2 a3 M) h
def f_X1_countThrough_b2 (z : Sh9) (r2 : Nat → Int32 → Mem9 → Re9) (x0 : Nat) (x1 : Int32) (M : Mem9) : Re9 :=
  ((gf9 z M x0 1 5).bind fun v1 => (if v1 ≤ x1 then (rv9 M) else (bi9 (iv9 z x0 1 (f_X1_lastCell z x0 x1 M)) fun v3 M2 => (if v3 = (21 : Int32) then ((rf9 z x0 1 5).bind fun v4 => ((ld9 z M2 11 v4 x1).bind fun v5 => (if v5 = 0 then ((gf9 z M2 x0 1 14).bind fun v6 => ((pf9 z M2 x0 1 14 (v6 + (1 : Int32))).bind fun M7 => (r2 x0 (x1 + (1 : Int32)) M7))) else ((gf9 z M2 x0 1 13).bind fun v8 => ((pf9 z M2 x0 1 13 (v8 + (1 : Int32))).bind fun M9 => ((gf9 z M9 x0 1 8).bind fun v10 => ((rf9 z x0 1 1).bind fun v11 => ((ld9 z M9 10 v11 x1).bind fun v12 => ((gf9 z M9 x0 1 8).bind fun v13 => ((dv9 (((8 : Int32) * v12) - v13) (4 : Int32)).bind fun v14 => ((pf9 z M9 x0 1 8 (v10 + v14)).bind fun M15 => (r2 x0 (x1 + (1 : Int32)) M15)))))))))))) else (r2 x0 (x1 + (1 : Int32)) M2)))))
set_option maxRecDepth 20000 in
set_option maxHeartbeats 4000000 in
theorem t_X1_countThrough_b2 {z : Sh9} {N : Nv9} {X : Cx9} {out : Out9 × Mem9} (C : OK9 z N X out 2 (co9 out.1) cX1_countThrough RX1 1 0 []) {r2 : Nat → Int32 → Mem9 → Re9} (h2 : ∀ (x0 : Nat) (x1 : Int32) (M : Mem9), J9 z N X out 2 2 [(0, .ref x0), (1, .int x1)] [] M (0, 0) (r2 x0 x1 M)) (x0 : Nat) (x1 : Int32) (M : Mem9) : J9 z N X out 2 2 [(0, .ref x0), (1, .int x1)] [] M (0, 0) (f_X1_countThrough_b2 z r2 x0 x1 M) := by
  refine j_iload_n (pc := 2) C dX1_countThrough_2 rfl ?_
  refine j_aload_n (pc := 3) C dX1_countThrough_3 rfl ?_
  refine j_getI (pc := 4) C dX1_countThrough_4 fl_X1_31 fi_X1_5 (fun v1 => ?_)
  refine j_icmp_ge (pc := 7) C dX1_countThrough_7 (tgt := 83) (by decide) (fun hc18 => ?_) (fun hc18 => ?_)
  · exact j_return (pc := 83) C rfl dX1_countThrough_83 ⟨Nat.zero_le _, Nat.zero_le _⟩
  · refine j_aload_n (pc := 10) C dX1_countThrough_10 rfl ?_
    refine j_iload_n (pc := 11) C dX1_countThrough_11 rfl ?_
    refine j_callVi (pc := 12) C rfl dX1_countThrough_12 lv_X1_73 rfl (Nat.le_of_ble_eq_true rfl) (Nat.le_of_ble_eq_true rfl) (by decide) (Or.inl rfl) ⟨Nat.le_refl _, Nat.le_refl _⟩ (fun l hl o ho => sp_X1_lastCell hl ho) (fun v3 M2 => ?_)
    refine j_bipush (pc := 15) C dX1_countThrough_15 (v := 21) rfl ?_
    refine j_icmp_ne (pc := 17) C dX1_countThrough_17 (tgt := 77) (by decide) (fun hc17 => ?_) (fun hc17 => ?_)
    · refine j_iinc (pc := 77) C dX1_countThrough_77 rfl (v := (x1 + (1 : Int32))) rfl (Nat.le_of_ble_eq_true rfl) (ls' := [(1, .int (x1 + (1 : Int32))), (0, .ref x0)]) rfl ?_
      refine j_goto (pc := 80) C dX1_countThrough_80 (tgt := 2) (by decide) ?_
      refine j_loc [1, 0] rfl ?_
      exact h2 x0 (x1 + (1 : Int32)) M2
    · refine j_aload_n (pc := 20) C dX1_countThrough_20 rfl ?_
      refine j_getR (pc := 21) C dX1_countThrough_21 fl_X1_25 fr_X1_4 (fun v4 => ?_)
      refine j_iload_n (pc := 24) C dX1_countThrough_24 rfl ?_
      refine j_baload (pc := 25) C dX1_countThrough_25 (fun v5 => ?_)
      refine j_if_eq (pc := 26) C dX1_countThrough_26 (tgt := 67) (by decide) (fun hc16 => ?_) (fun hc16 => ?_)
      · refine j_aload_n (pc := 67) C dX1_countThrough_67 rfl ?_
        refine j_dup (pc := 68) C dX1_countThrough_68 rfl ?_
        refine j_getI (pc := 69) C dX1_countThrough_69 fl_X1_60 fi_X1_14 (fun v6 => ?_)
        refine j_iconst (pc := 72) C dX1_countThrough_72 (v := 1) rfl ?_
        refine j_iadd (pc := 73) C dX1_countThrough_73 ?_
        refine j_putI (pc := 74) C dX1_countThrough_74 fl_X1_60 fi_X1_14 rfl rfl (fun M7 => ?_)
        refine j_iinc (pc := 77) C dX1_countThrough_77 rfl (v := (x1 + (1 : Int32))) rfl (Nat.le_of_ble_eq_true rfl) (ls' := [(1, .int (x1 + (1 : Int32))), (0, .ref x0)]) rfl ?_
        refine j_goto (pc := 80) C dX1_countThrough_80 (tgt := 2) (by decide) ?_
        refine j_loc [1, 0] rfl ?_
        exact h2 x0 (x1 + (1 : Int32)) M7
      · refine j_aload_n (pc := 29) C dX1_countThrough_29 rfl ?_
        refine j_dup (pc := 30) C dX1_countThrough_30 rfl ?_
        refine j_getI (pc := 31) C dX1_countThrough_31 fl_X1_57 fi_X1_13 (fun v8 => ?_)
        refine j_iconst (pc := 34) C dX1_countThrough_34 (v := 1) rfl ?_
        refine j_iadd (pc := 35) C dX1_countThrough_35 ?_
        refine j_putI (pc := 36) C dX1_countThrough_36 fl_X1_57 fi_X1_13 rfl rfl (fun M9 => ?_)
        refine j_aload_n (pc := 39) C dX1_countThrough_39 rfl ?_
        refine j_dup (pc := 40) C dX1_countThrough_40 rfl ?_
        refine j_getI (pc := 41) C dX1_countThrough_41 fl_X1_41 fi_X1_8 (fun v10 => ?_)
        refine j_bipush (pc := 44) C dX1_countThrough_44 (v := 8) rfl ?_
        refine j_aload_n (pc := 46) C dX1_countThrough_46 rfl ?_
        refine j_getR (pc := 47) C dX1_countThrough_47 fl_X1_9 fr_X1_0 (fun v11 => ?_)
        refine j_iload_n (pc := 50) C dX1_countThrough_50 rfl ?_
        refine j_iaload (pc := 51) C dX1_countThrough_51 (fun v12 => ?_)
        refine j_imul (pc := 52) C dX1_countThrough_52 ?_
        refine j_aload_n (pc := 53) C dX1_countThrough_53 rfl ?_
        refine j_getI (pc := 54) C dX1_countThrough_54 fl_X1_41 fi_X1_8 (fun v13 => ?_)
        refine j_isub (pc := 57) C dX1_countThrough_57 ?_
        refine j_iconst (pc := 58) C dX1_countThrough_58 (v := 4) rfl ?_
        refine j_idiv (pc := 59) C dX1_countThrough_59 (fun v14 => ?_)
        refine j_iadd (pc := 60) C dX1_countThrough_60 ?_
        refine j_putI (pc := 61) C dX1_countThrough_61 fl_X1_41 fi_X1_8 rfl rfl (fun M15 => ?_)
        refine j_goto (pc := 64) C dX1_countThrough_64 (tgt := 77) (by decide) ?_
        refine j_iinc (pc := 77) C dX1_countThrough_77 rfl (v := (x1 + (1 : Int32))) rfl (Nat.le_of_ble_eq_true rfl) (ls' := [(1, .int (x1 + (1 : Int32))), (0, .ref x0)]) rfl ?_
        refine j_goto (pc := 80) C dX1_countThrough_80 (tgt := 2) (by decide) ?_
        refine j_loc [1, 0] rfl ?_
        exact h2 x0 (x1 + (1 : Int32)) M15
theorem t_X1_countThrough_l2 {z : Sh9} {N : Nv9} {X : Cx9} {out : Out9 × Mem9} (C : OK9 z N X out 2 (co9 out.1) cX1_countThrough RX1 1 0 [])  : ∀ (n : Nat) (x0 : Nat) (x1 : Int32) (M : Mem9), J9 z N X out 2 2 [(0, .ref x0), (1, .int x1)] [] M (0, 0) (fx9 (fun _ _ _ => none) (f_X1_countThrough_b2 z ) n x0 x1 M) := by
  intro n
  induction n with
  | zero => intro x0 x1 M; exact j_none
  | succ n ih => intro x0 x1 M; exact t_X1_countThrough_b2 C  ih x0 x1 M
def f_X1_countThrough (z : Sh9) (a0 : Nat) (M : Mem9) : Re9 :=
  (fx9 (fun _ _ _ => none) (f_X1_countThrough_b2 z ) FU9 a0 (0 : Int32) M)
set_option maxRecDepth 20000 in
set_option maxHeartbeats 4000000 in
theorem t_X1_countThrough {z : Sh9} {N : Nv9} {X : Cx9} {out : Out9 × Mem9} (C : OK9 z N X out 2 (co9 out.1) cX1_countThrough RX1 1 0 []) (a0 : Nat) (M : Mem9) : J9 z N X out 2 0 [(0, .ref a0)] [] M (0, 0) (f_X1_countThrough z a0 M) := by
  refine j_iconst (pc := 0) C dX1_countThrough_0 (v := 0) rfl ?_
  refine j_istore_n (pc := 1) C dX1_countThrough_1 (Nat.le_of_ble_eq_true rfl) (ls' := [(1, .int (0 : Int32)), (0, .ref a0)]) rfl ?_
  refine j_loc [1, 0] rfl ?_
  exact t_X1_countThrough_l2 C  FU9 a0 (0 : Int32) M
theorem sp_X1_countThrough {l : Launch} {z : Sh9} {N : Nv9} {a0 : Nat} {M : Mem9} {o : Out9 × Mem9} (hl : l.stackTraces = false) (h : f_X1_countThrough z a0 M = some o) : Sp9 l z N yX1_countThrough (Cond.code yX1_countThrough cX1_countThrough 2 none) 1 [.ref a0] M (co9 o.1) o :=
  sp9_of (rk := 0) (own := RX1) (by decide +kernel) rfl (Or.inl ⟨rfl, rfl⟩) hl (Nat.le_of_ble_eq_true rfl) (fun X C => t_X1_countThrough C a0 M) h
def f_X1_isUnderArm_b2 (z : Sh9) (r2 : Nat → Int32 → Mem9 → Re9) (x0 : Nat) (x1 : Int32) (M : Mem9) : Re9 :=
  ((gf9 z M x0 1 5).bind fun v1 => (if v1 ≤ x1 then (rz9 (0 : Int32) M) else ((rf9 z x0 1 2).bind fun v2 => ((ld9 z M 10 v2 x1).bind fun v3 => (if v3 < (20 : Int32) then (r2 x0 (x1 + (1 : Int32)) M) else (bi9 (iv9 z x0 1 (f_X1_lastCell z x0 x1 M)) fun v5 M4 => (if (20 : Int32) < v5 then (r2 x0 (x1 + (1 : Int32)) M4) else (rz9 (1 : Int32) M4))))))))
set_option maxRecDepth 20000 in
set_option maxHeartbeats 4000000 in
theorem t_X1_isUnderArm_b2 {z : Sh9} {N : Nv9} {X : Cx9} {out : Out9 × Mem9} (C : OK9 z N X out 2 (co9 out.1) cX1_isUnderArm RX1 1 2 []) {r2 : Nat → Int32 → Mem9 → Re9} (h2 : ∀ (x0 : Nat) (x1 : Int32) (M : Mem9), J9 z N X out 2 2 [(0, .ref x0), (1, .int x1)] [] M (0, 0) (r2 x0 x1 M)) (x0 : Nat) (x1 : Int32) (M : Mem9) : J9 z N X out 2 2 [(0, .ref x0), (1, .int x1)] [] M (0, 0) (f_X1_isUnderArm_b2 z r2 x0 x1 M) := by
  refine j_iload_n (pc := 2) C dX1_isUnderArm_2 rfl ?_
  refine j_aload_n (pc := 3) C dX1_isUnderArm_3 rfl ?_
  refine j_getI (pc := 4) C dX1_isUnderArm_4 fl_X1_31 fi_X1_5 (fun v1 => ?_)
  refine j_icmp_ge (pc := 7) C dX1_isUnderArm_7 (tgt := 39) (by decide) (fun hc8 => ?_) (fun hc8 => ?_)
  · refine j_iconst (pc := 39) C dX1_isUnderArm_39 (v := 0) rfl ?_
    exact j_zreturn (pc := 40) C rfl dX1_isUnderArm_40 ⟨Nat.zero_le _, Nat.zero_le _⟩
  · refine j_aload_n (pc := 10) C dX1_isUnderArm_10 rfl ?_
    refine j_getR (pc := 11) C dX1_isUnderArm_11 fl_X1_15 fr_X1_1 (fun v2 => ?_)
    refine j_iload_n (pc := 14) C dX1_isUnderArm_14 rfl ?_
    refine j_iaload (pc := 15) C dX1_isUnderArm_15 (fun v3 => ?_)
    refine j_bipush (pc := 16) C dX1_isUnderArm_16 (v := 20) rfl ?_
    refine j_icmp_lt (pc := 18) C dX1_isUnderArm_18 (tgt := 33) (by decide) (fun hc7 => ?_) (fun hc7 => ?_)
    · refine j_iinc (pc := 33) C dX1_isUnderArm_33 rfl (v := (x1 + (1 : Int32))) rfl (Nat.le_of_ble_eq_true rfl) (ls' := [(1, .int (x1 + (1 : Int32))), (0, .ref x0)]) rfl ?_
      refine j_goto (pc := 36) C dX1_isUnderArm_36 (tgt := 2) (by decide) ?_
      refine j_loc [1, 0] rfl ?_
      exact h2 x0 (x1 + (1 : Int32)) M
    · refine j_aload_n (pc := 21) C dX1_isUnderArm_21 rfl ?_
      refine j_iload_n (pc := 22) C dX1_isUnderArm_22 rfl ?_
      refine j_callVi (pc := 23) C rfl dX1_isUnderArm_23 lv_X1_73 rfl (Nat.le_of_ble_eq_true rfl) (Nat.le_of_ble_eq_true rfl) (by decide) (Or.inl rfl) ⟨Nat.le_refl _, Nat.le_refl _⟩ (fun l hl o ho => sp_X1_lastCell hl ho) (fun v5 M4 => ?_)
      refine j_bipush (pc := 26) C dX1_isUnderArm_26 (v := 20) rfl ?_
      refine j_icmp_gt (pc := 28) C dX1_isUnderArm_28 (tgt := 33) (by decide) (fun hc6 => ?_) (fun hc6 => ?_)
      · refine j_iinc (pc := 33) C dX1_isUnderArm_33 rfl (v := (x1 + (1 : Int32))) rfl (Nat.le_of_ble_eq_true rfl) (ls' := [(1, .int (x1 + (1 : Int32))), (0, .ref x0)]) rfl ?_
        refine j_goto (pc := 36) C dX1_isUnderArm_36 (tgt := 2) (by decide) ?_
        refine j_loc [1, 0] rfl ?_
        exact h2 x0 (x1 + (1 : Int32)) M4
      · refine j_iconst (pc := 31) C dX1_isUnderArm_31 (v := 1) rfl ?_
        exact j_zreturn (pc := 32) C rfl dX1_isUnderArm_32 ⟨Nat.zero_le _, Nat.zero_le _⟩
theorem t_X1_isUnderArm_l2 {z : Sh9} {N : Nv9} {X : Cx9} {out : Out9 × Mem9} (C : OK9 z N X out 2 (co9 out.1) cX1_isUnderArm RX1 1 2 [])  : ∀ (n : Nat) (x0 : Nat) (x1 : Int32) (M : Mem9), J9 z N X out 2 2 [(0, .ref x0), (1, .int x1)] [] M (0, 0) (fx9 (fun _ _ _ => none) (f_X1_isUnderArm_b2 z ) n x0 x1 M) := by
  intro n
  induction n with
  | zero => intro x0 x1 M; exact j_none
  | succ n ih => intro x0 x1 M; exact t_X1_isUnderArm_b2 C  ih x0 x1 M
def f_X1_isUnderArm (z : Sh9) (a0 : Nat) (M : Mem9) : Re9 :=
  (fx9 (fun _ _ _ => none) (f_X1_isUnderArm_b2 z ) FU9 a0 (0 : Int32) M)
set_option maxRecDepth 20000 in
set_option maxHeartbeats 4000000 in
theorem t_X1_isUnderArm {z : Sh9} {N : Nv9} {X : Cx9} {out : Out9 × Mem9} (C : OK9 z N X out 2 (co9 out.1) cX1_isUnderArm RX1 1 2 []) (a0 : Nat) (M : Mem9) : J9 z N X out 2 0 [(0, .ref a0)] [] M (0, 0) (f_X1_isUnderArm z a0 M) := by
  refine j_iconst (pc := 0) C dX1_isUnderArm_0 (v := 0) rfl ?_
  refine j_istore_n (pc := 1) C dX1_isUnderArm_1 (Nat.le_of_ble_eq_true rfl) (ls' := [(1, .int (0 : Int32)), (0, .ref a0)]) rfl ?_
  refine j_loc [1, 0] rfl ?_
  exact t_X1_isUnderArm_l2 C  FU9 a0 (0 : Int32) M
theorem sp_X1_isUnderArm {l : Launch} {z : Sh9} {N : Nv9} {a0 : Nat} {M : Mem9} {o : Out9 × Mem9} (hl : l.stackTraces = false) (h : f_X1_isUnderArm z a0 M = some o) : Sp9 l z N yX1_isUnderArm (Cond.code yX1_isUnderArm cX1_isUnderArm 2 (some .boolean)) 1 [.ref a0] M (co9 o.1) o :=
  sp9_of (rk := 2) (own := RX1) (by decide +kernel) rfl (Or.inr (Or.inr (Or.inl ⟨rfl, rfl⟩))) hl (Nat.le_of_ble_eq_true rfl) (fun X C => t_X1_isUnderArm C a0 M) h
def f_X1_hitIfUnderArm (z : Sh9) (a0 : Nat) (M : Mem9) : Re9 :=
  ((gf9 z M a0 1 11).bind fun v1 => (if v1 = 0 then ((gf9 z M a0 1 6).bind fun v2 => (if (4 : Int32) ≤ v2 then (rv9 M) else (bi9 (iv9 z a0 1 (f_X1_isUnderArm z a0  M)) fun v4 M3 => (if v4 = 0 then (rv9 M3) else ((pz9 z M3 a0 1 11 (1 : Int32)).bind fun M5 => ((gf9 z M5 a0 1 15).bind fun v6 => ((pf9 z M5 a0 1 15 (v6 + (1 : Int32))).bind fun M7 => (rv9 M7)))))))) else (rv9 M)))
set_option maxRecDepth 20000 in
set_option maxHeartbeats 4000000 in
theorem t_X1_hitIfUnderArm {z : Sh9} {N : Nv9} {X : Cx9} {out : Out9 × Mem9} (C : OK9 z N X out 1 (co9 out.1) cX1_hitIfUnderArm RX1 2 0 []) (a0 : Nat) (M : Mem9) : J9 z N X out 1 0 [(0, .ref a0)] [] M (0, 0) (f_X1_hitIfUnderArm z a0 M) := by
  refine j_aload_n (pc := 0) C dX1_hitIfUnderArm_0 rfl ?_
  refine j_getI (pc := 1) C dX1_hitIfUnderArm_1 fl_X1_51 fi_X1_11 (fun v1 => ?_)
  refine j_if_ne (pc := 4) C dX1_hitIfUnderArm_4 (tgt := 37) (by decide) (fun hc10 => ?_) (fun hc10 => ?_)
  · exact j_return (pc := 37) C rfl dX1_hitIfUnderArm_37 ⟨Nat.zero_le _, Nat.zero_le _⟩
  · refine j_aload_n (pc := 7) C dX1_hitIfUnderArm_7 rfl ?_
    refine j_getI (pc := 8) C dX1_hitIfUnderArm_8 fl_X1_35 fi_X1_6 (fun v2 => ?_)
    refine j_iconst (pc := 11) C dX1_hitIfUnderArm_11 (v := 4) rfl ?_
    refine j_icmp_ge (pc := 12) C dX1_hitIfUnderArm_12 (tgt := 37) (by decide) (fun hc9 => ?_) (fun hc9 => ?_)
    · exact j_return (pc := 37) C rfl dX1_hitIfUnderArm_37 ⟨Nat.zero_le _, Nat.zero_le _⟩
    · refine j_aload_n (pc := 15) C dX1_hitIfUnderArm_15 rfl ?_
      refine j_callVi (pc := 16) C rfl dX1_hitIfUnderArm_16 lv_X1_124 rfl (Nat.le_of_ble_eq_true rfl) (Nat.le_of_ble_eq_true rfl) (by decide) (Or.inl rfl) ⟨Nat.le_refl _, Nat.le_refl _⟩ (fun l hl o ho => sp_X1_isUnderArm hl ho) (fun v4 M3 => ?_)
      refine j_if_eq (pc := 19) C dX1_hitIfUnderArm_19 (tgt := 37) (by decide) (fun hc8 => ?_) (fun hc8 => ?_)
      · exact j_return (pc := 37) C rfl dX1_hitIfUnderArm_37 ⟨Nat.zero_le _, Nat.zero_le _⟩
      · refine j_aload_n (pc := 22) C dX1_hitIfUnderArm_22 rfl ?_
        refine j_iconst (pc := 23) C dX1_hitIfUnderArm_23 (v := 1) rfl ?_
        refine j_putZ (pc := 24) C dX1_hitIfUnderArm_24 fl_X1_51 fi_X1_11 rfl rfl (fun M5 => ?_)
        refine j_aload_n (pc := 27) C dX1_hitIfUnderArm_27 rfl ?_
        refine j_dup (pc := 28) C dX1_hitIfUnderArm_28 rfl ?_
        refine j_getI (pc := 29) C dX1_hitIfUnderArm_29 fl_X1_63 fi_X1_15 (fun v6 => ?_)
        refine j_iconst (pc := 32) C dX1_hitIfUnderArm_32 (v := 1) rfl ?_
        refine j_iadd (pc := 33) C dX1_hitIfUnderArm_33 ?_
        refine j_putI (pc := 34) C dX1_hitIfUnderArm_34 fl_X1_63 fi_X1_15 rfl rfl (fun M7 => ?_)
        exact j_return (pc := 37) C rfl dX1_hitIfUnderArm_37 ⟨Nat.zero_le _, Nat.zero_le _⟩
theorem sp_X1_hitIfUnderArm {l : Launch} {z : Sh9} {N : Nv9} {a0 : Nat} {M : Mem9} {o : Out9 × Mem9} (hl : l.stackTraces = false) (h : f_X1_hitIfUnderArm z a0 M = some o) : Sp9 l z N yX1_hitIfUnderArm (Cond.code yX1_hitIfUnderArm cX1_hitIfUnderArm 1 none) 2 [.ref a0] M (co9 o.1) o :=
  sp9_of (rk := 0) (own := RX1) (by decide +kernel) rfl (Or.inl ⟨rfl, rfl⟩) hl (Nat.le_of_ble_eq_true rfl) (fun X C => t_X1_hitIfUnderArm C a0 M) h
def f_X1_moveArm_b28 (z : Sh9)  (x0 : Nat) (s0 : Int32) (s1 : Nat) (M : Mem9) : Re9 :=
  ((pf9 z M s1 1 6 s0).bind fun M4 => ((gf9 z M4 x0 1 6).bind fun v5 => (if v5 = (4 : Int32) then ((gf9 z M4 x0 1 7).bind fun v6 => ((pf9 z M4 x0 1 7 (if (0 : Int32) < (v6 - (1 : Int32)) then (v6 - (1 : Int32)) else (0 : Int32))).bind fun M7 => (rv9 M7))) else (rv9 M4))))
set_option maxRecDepth 20000 in
set_option maxHeartbeats 4000000 in
theorem t_X1_moveArm_b28 {z : Sh9} {N : Nv9} {X : Cx9} {out : Out9 × Mem9} (C : OK9 z N X out 2 (co9 out.1) cX1_moveArm RX1 1 0 [])  (x0 : Nat) (s0 : Int32) (s1 : Nat) (M : Mem9) : J9 z N X out 2 28 [(0, .ref x0)] [.int s0, .ref s1] M (0, 0) (f_X1_moveArm_b28 z  x0 s0 s1 M) := by
  refine j_putI (pc := 28) C dX1_moveArm_28 fl_X1_35 fi_X1_6 rfl rfl (fun M4 => ?_)
  refine j_aload_n (pc := 31) C dX1_moveArm_31 rfl ?_
  refine j_getI (pc := 32) C dX1_moveArm_32 fl_X1_35 fi_X1_6 (fun v5 => ?_)
  refine j_iconst (pc := 35) C dX1_moveArm_35 (v := 4) rfl ?_
  refine j_icmp_ne (pc := 36) C dX1_moveArm_36 (tgt := 53) (by decide) (fun hc8 => ?_) (fun hc8 => ?_)
  · exact j_return (pc := 53) C rfl dX1_moveArm_53 ⟨Nat.zero_le _, Nat.zero_le _⟩
  · refine j_aload_n (pc := 39) C dX1_moveArm_39 rfl ?_
    refine j_iconst (pc := 40) C dX1_moveArm_40 (v := 0) rfl ?_
    refine j_aload_n (pc := 41) C dX1_moveArm_41 rfl ?_
    refine j_getI (pc := 42) C dX1_moveArm_42 fl_X1_38 fi_X1_7 (fun v6 => ?_)
    refine j_iconst (pc := 45) C dX1_moveArm_45 (v := 1) rfl ?_
    refine j_isub (pc := 46) C dX1_moveArm_46 ?_
    refine j_max (pc := 47) C dX1_moveArm_47 w9_424 w9_425 w9_38 w9_426 (by decide) (Nat.le_of_ble_eq_true rfl) ⟨Nat.zero_le _, Nat.zero_le _⟩ ?_
    refine j_putI (pc := 50) C dX1_moveArm_50 fl_X1_38 fi_X1_7 rfl rfl (fun M7 => ?_)
    exact j_return (pc := 53) C rfl dX1_moveArm_53 ⟨Nat.zero_le _, Nat.zero_le _⟩
def f_X1_moveArm (z : Sh9) (a0 : Nat) (a1 : Int32) (M : Mem9) : Re9 :=
  (if a1 = 0 then ((gf9 z M a0 1 6).bind fun v1 => (f_X1_moveArm_b28 z  a0 (if (0 : Int32) < (v1 - (1 : Int32)) then (v1 - (1 : Int32)) else (0 : Int32)) a0 M)) else ((gf9 z M a0 1 6).bind fun v2 => (f_X1_moveArm_b28 z  a0 (if (v2 + (1 : Int32)) < (4 : Int32) then (v2 + (1 : Int32)) else (4 : Int32)) a0 M)))
set_option maxRecDepth 20000 in
set_option maxHeartbeats 4000000 in
theorem t_X1_moveArm {z : Sh9} {N : Nv9} {X : Cx9} {out : Out9 × Mem9} (C : OK9 z N X out 2 (co9 out.1) cX1_moveArm RX1 1 0 []) (a0 : Nat) (a1 : Int32) (M : Mem9) : J9 z N X out 2 0 [(0, .ref a0), (1, .int a1)] [] M (0, 0) (f_X1_moveArm z a0 a1 M) := by
  refine j_aload_n (pc := 0) C dX1_moveArm_0 rfl ?_
  refine j_iload_n (pc := 1) C dX1_moveArm_1 rfl ?_
  refine j_if_eq (pc := 2) C dX1_moveArm_2 (tgt := 18) (by decide) (fun hc3 => ?_) (fun hc3 => ?_)
  · refine j_iconst (pc := 18) C dX1_moveArm_18 (v := 0) rfl ?_
    refine j_aload_n (pc := 19) C dX1_moveArm_19 rfl ?_
    refine j_getI (pc := 20) C dX1_moveArm_20 fl_X1_35 fi_X1_6 (fun v1 => ?_)
    refine j_iconst (pc := 23) C dX1_moveArm_23 (v := 1) rfl ?_
    refine j_isub (pc := 24) C dX1_moveArm_24 ?_
    refine j_max (pc := 25) C dX1_moveArm_25 w9_424 w9_425 w9_38 w9_426 (by decide) (Nat.le_of_ble_eq_true rfl) ⟨Nat.zero_le _, Nat.zero_le _⟩ ?_
    refine j_loc [0] rfl ?_
    exact t_X1_moveArm_b28 C  a0 (if (0 : Int32) < (v1 - (1 : Int32)) then (v1 - (1 : Int32)) else (0 : Int32)) a0 M
  · refine j_iconst (pc := 5) C dX1_moveArm_5 (v := 4) rfl ?_
    refine j_aload_n (pc := 6) C dX1_moveArm_6 rfl ?_
    refine j_getI (pc := 7) C dX1_moveArm_7 fl_X1_35 fi_X1_6 (fun v2 => ?_)
    refine j_iconst (pc := 10) C dX1_moveArm_10 (v := 1) rfl ?_
    refine j_iadd (pc := 11) C dX1_moveArm_11 ?_
    refine j_min (pc := 12) C dX1_moveArm_12 w9_357 w9_358 w9_38 w9_359 (by decide) (Nat.le_of_ble_eq_true rfl) ⟨Nat.zero_le _, Nat.zero_le _⟩ ?_
    refine j_goto (pc := 15) C dX1_moveArm_15 (tgt := 28) (by decide) ?_
    refine j_loc [0] rfl ?_
    exact t_X1_moveArm_b28 C  a0 (if (v2 + (1 : Int32)) < (4 : Int32) then (v2 + (1 : Int32)) else (4 : Int32)) a0 M
theorem sp_X1_moveArm {l : Launch} {z : Sh9} {N : Nv9} {a0 : Nat} {a1 : Int32} {M : Mem9} {o : Out9 × Mem9} (hl : l.stackTraces = false) (h : f_X1_moveArm z a0 a1 M = some o) : Sp9 l z N yX1_moveArm (Cond.code yX1_moveArm cX1_moveArm 2 none) 1 [.ref a0, .int a1] M (co9 o.1) o :=
  sp9_of (rk := 0) (own := RX1) (by decide +kernel) rfl (Or.inl ⟨rfl, rfl⟩) hl (Nat.le_of_ble_eq_true rfl) (fun X C => t_X1_moveArm C a0 a1 M) h
def f_X1_canMove_b28 (z : Sh9)  (x0 : Nat) (x1 : Int32) (M : Mem9) : Re9 :=
  ((rf9 z x0 1 2).bind fun v8 => ((ld9 z M 10 v8 x1).bind fun v9 => (if v9 = (19 : Int32) then ((gf9 z M x0 1 6).bind fun v10 => (if v10 = (4 : Int32) then ((rf9 z x0 1 5).bind fun v11 => ((ld9 z M 11 v11 x1).bind fun v12 => (if v12 = 0 then ((rf9 z x0 1 4).bind fun v13 => ((ld9 z M 11 v13 x1).bind fun v14 => (if v14 = 0 then (rz9 (0 : Int32) M) else (rz9 (1 : Int32) M)))) else (rz9 (1 : Int32) M)))) else (rz9 (0 : Int32) M))) else (rz9 (1 : Int32) M))))
set_option maxRecDepth 20000 in
set_option maxHeartbeats 4000000 in
theorem t_X1_canMove_b28 {z : Sh9} {N : Nv9} {X : Cx9} {out : Out9 × Mem9} (C : OK9 z N X out 3 (co9 out.1) cX1_canMove RX1 1 2 [])  (x0 : Nat) (x1 : Int32) (M : Mem9) : J9 z N X out 3 28 [(0, .ref x0), (1, .int x1)] [] M (0, 0) (f_X1_canMove_b28 z  x0 x1 M) := by
  refine j_aload_n (pc := 28) C dX1_canMove_28 rfl ?_
  refine j_getR (pc := 29) C dX1_canMove_29 fl_X1_15 fr_X1_1 (fun v8 => ?_)
  refine j_iload_n (pc := 32) C dX1_canMove_32 rfl ?_
  refine j_iaload (pc := 33) C dX1_canMove_33 (fun v9 => ?_)
  refine j_bipush (pc := 34) C dX1_canMove_34 (v := 19) rfl ?_
  refine j_icmp_ne (pc := 36) C dX1_canMove_36 (tgt := 65) (by decide) (fun hc18 => ?_) (fun hc18 => ?_)
  · refine j_iconst (pc := 65) C dX1_canMove_65 (v := 1) rfl ?_
    refine j_goto (pc := 66) C dX1_canMove_66 (tgt := 70) (by decide) ?_
    exact j_zreturn (pc := 70) C rfl dX1_canMove_70 ⟨Nat.zero_le _, Nat.zero_le _⟩
  · refine j_aload_n (pc := 39) C dX1_canMove_39 rfl ?_
    refine j_getI (pc := 40) C dX1_canMove_40 fl_X1_35 fi_X1_6 (fun v10 => ?_)
    refine j_iconst (pc := 43) C dX1_canMove_43 (v := 4) rfl ?_
    refine j_icmp_ne (pc := 44) C dX1_canMove_44 (tgt := 69) (by decide) (fun hc17 => ?_) (fun hc17 => ?_)
    · refine j_iconst (pc := 69) C dX1_canMove_69 (v := 0) rfl ?_
      exact j_zreturn (pc := 70) C rfl dX1_canMove_70 ⟨Nat.zero_le _, Nat.zero_le _⟩
    · refine j_aload_n (pc := 47) C dX1_canMove_47 rfl ?_
      refine j_getR (pc := 48) C dX1_canMove_48 fl_X1_25 fr_X1_4 (fun v11 => ?_)
      refine j_iload_n (pc := 51) C dX1_canMove_51 rfl ?_
      refine j_baload (pc := 52) C dX1_canMove_52 (fun v12 => ?_)
      refine j_if_ne (pc := 53) C dX1_canMove_53 (tgt := 65) (by decide) (fun hc16 => ?_) (fun hc16 => ?_)
      · refine j_iconst (pc := 65) C dX1_canMove_65 (v := 1) rfl ?_
        refine j_goto (pc := 66) C dX1_canMove_66 (tgt := 70) (by decide) ?_
        exact j_zreturn (pc := 70) C rfl dX1_canMove_70 ⟨Nat.zero_le _, Nat.zero_le _⟩
      · refine j_aload_n (pc := 56) C dX1_canMove_56 rfl ?_
        refine j_getR (pc := 57) C dX1_canMove_57 fl_X1_22 fr_X1_3 (fun v13 => ?_)
        refine j_iload_n (pc := 60) C dX1_canMove_60 rfl ?_
        refine j_baload (pc := 61) C dX1_canMove_61 (fun v14 => ?_)
        refine j_if_eq (pc := 62) C dX1_canMove_62 (tgt := 69) (by decide) (fun hc15 => ?_) (fun hc15 => ?_)
        · refine j_iconst (pc := 69) C dX1_canMove_69 (v := 0) rfl ?_
          exact j_zreturn (pc := 70) C rfl dX1_canMove_70 ⟨Nat.zero_le _, Nat.zero_le _⟩
        · refine j_iconst (pc := 65) C dX1_canMove_65 (v := 1) rfl ?_
          refine j_goto (pc := 66) C dX1_canMove_66 (tgt := 70) (by decide) ?_
          exact j_zreturn (pc := 70) C rfl dX1_canMove_70 ⟨Nat.zero_le _, Nat.zero_le _⟩
def f_X1_canMove (z : Sh9) (a0 : Nat) (a1 : Int32) (M : Mem9) : Re9 :=
  ((rf9 z a0 1 2).bind fun v1 => ((ld9 z M 10 v1 a1).bind fun v2 => (nm9 (v2 + (1 : Int32)) fun (y3 : Int32) => (if a1 ≤ 0 then (f_X1_canMove_b28 z  a0 a1 M) else (bi9 (iv9 z a0 1 (f_X1_lastCell z a0 (a1 - (1 : Int32)) M)) fun v5 M4 => (if (y3 + (1 : Int32)) ≤ v5 then (f_X1_canMove_b28 z  a0 a1 M4) else (rz9 (0 : Int32) M4)))))))
set_option maxRecDepth 20000 in
set_option maxHeartbeats 4000000 in
theorem t_X1_canMove {z : Sh9} {N : Nv9} {X : Cx9} {out : Out9 × Mem9} (C : OK9 z N X out 3 (co9 out.1) cX1_canMove RX1 1 2 []) (a0 : Nat) (a1 : Int32) (M : Mem9) : J9 z N X out 3 0 [(0, .ref a0), (1, .int a1)] [] M (0, 0) (f_X1_canMove z a0 a1 M) := by
  refine j_aload_n (pc := 0) C dX1_canMove_0 rfl ?_
  refine j_getR (pc := 1) C dX1_canMove_1 fl_X1_15 fr_X1_1 (fun v1 => ?_)
  refine j_iload_n (pc := 4) C dX1_canMove_4 rfl ?_
  refine j_iaload (pc := 5) C dX1_canMove_5 (fun v2 => ?_)
  refine j_iconst (pc := 6) C dX1_canMove_6 (v := 1) rfl ?_
  refine j_iadd (pc := 7) C dX1_canMove_7 ?_
  refine j_nm (st' := fun x9 : Int32 => .int x9 :: []) rfl (fun y3 => ?_)
  refine j_istore_n (pc := 8) C dX1_canMove_8 (Nat.le_of_ble_eq_true rfl) (ls' := [(2, .int y3), (0, .ref a0), (1, .int a1)]) rfl ?_
  refine j_iload_n (pc := 9) C dX1_canMove_9 rfl ?_
  refine j_if_le (pc := 10) C dX1_canMove_10 (tgt := 28) (by decide) (fun hc7 => ?_) (fun hc7 => ?_)
  · refine j_loc [1, 2] rfl ?_
    exact t_X1_canMove_b28 C  a0 a1 M
  · refine j_aload_n (pc := 13) C dX1_canMove_13 rfl ?_
    refine j_iload_n (pc := 14) C dX1_canMove_14 rfl ?_
    refine j_iconst (pc := 15) C dX1_canMove_15 (v := 1) rfl ?_
    refine j_isub (pc := 16) C dX1_canMove_16 ?_
    refine j_callVi (pc := 17) C rfl dX1_canMove_17 lv_X1_73 rfl (Nat.le_of_ble_eq_true rfl) (Nat.le_of_ble_eq_true rfl) (by decide) (Or.inl rfl) ⟨Nat.le_refl _, Nat.le_refl _⟩ (fun l hl o ho => sp_X1_lastCell hl ho) (fun v5 M4 => ?_)
    refine j_iload_n (pc := 20) C dX1_canMove_20 rfl ?_
    refine j_iconst (pc := 21) C dX1_canMove_21 (v := 1) rfl ?_
    refine j_iadd (pc := 22) C dX1_canMove_22 ?_
    refine j_icmp_ge (pc := 23) C dX1_canMove_23 (tgt := 28) (by decide) (fun hc6 => ?_) (fun hc6 => ?_)
    · refine j_loc [1, 2] rfl ?_
      exact t_X1_canMove_b28 C  a0 a1 M4
    · refine j_iconst (pc := 26) C dX1_canMove_26 (v := 0) rfl ?_
      exact j_zreturn (pc := 27) C rfl dX1_canMove_27 ⟨Nat.zero_le _, Nat.zero_le _⟩
theorem sp_X1_canMove {l : Launch} {z : Sh9} {N : Nv9} {a0 : Nat} {a1 : Int32} {M : Mem9} {o : Out9 × Mem9} (hl : l.stackTraces = false) (h : f_X1_canMove z a0 a1 M = some o) : Sp9 l z N yX1_canMove (Cond.code yX1_canMove cX1_canMove 3 (some .boolean)) 1 [.ref a0, .int a1] M (co9 o.1) o :=
  sp9_of (rk := 2) (own := RX1) (by decide +kernel) rfl (Or.inr (Or.inr (Or.inl ⟨rfl, rfl⟩))) hl (Nat.le_of_ble_eq_true rfl) (fun X C => t_X1_canMove C a0 a1 M) h
def f_X1_removeFirst_b2 (z : Sh9) (r2 : Nat → Int32 → Mem9 → Re9) (x0 : Nat) (x1 : Int32) (M : Mem9) : Re9 :=
  ((gf9 z M x0 1 5).bind fun v1 => (if v1 ≤ x1 then ((gf9 z M x0 1 5).bind fun v2 => ((pf9 z M x0 1 5 (v2 - (1 : Int32))).bind fun M3 => (rv9 M3))) else (bv9 (iv9 z x0 1 (f_X1_copyVehicle z x0 x0 x1 (x1 - (1 : Int32)) M)) fun M4 => (r2 x0 (x1 + (1 : Int32)) M4))))
set_option maxRecDepth 20000 in
set_option maxHeartbeats 4000000 in
theorem t_X1_removeFirst_b2 {z : Sh9} {N : Nv9} {X : Cx9} {out : Out9 × Mem9} (C : OK9 z N X out 2 (co9 out.1) cX1_removeFirst RX1 1 0 []) {r2 : Nat → Int32 → Mem9 → Re9} (h2 : ∀ (x0 : Nat) (x1 : Int32) (M : Mem9), J9 z N X out 2 2 [(0, .ref x0), (1, .int x1)] [] M (0, 0) (r2 x0 x1 M)) (x0 : Nat) (x1 : Int32) (M : Mem9) : J9 z N X out 2 2 [(0, .ref x0), (1, .int x1)] [] M (0, 0) (f_X1_removeFirst_b2 z r2 x0 x1 M) := by
  refine j_iload_n (pc := 2) C dX1_removeFirst_2 rfl ?_
  refine j_aload_n (pc := 3) C dX1_removeFirst_3 rfl ?_
  refine j_getI (pc := 4) C dX1_removeFirst_4 fl_X1_31 fi_X1_5 (fun v1 => ?_)
  refine j_icmp_ge (pc := 7) C dX1_removeFirst_7 (tgt := 25) (by decide) (fun hc5 => ?_) (fun hc5 => ?_)
  · refine j_aload_n (pc := 25) C dX1_removeFirst_25 rfl ?_
    refine j_dup (pc := 26) C dX1_removeFirst_26 rfl ?_
    refine j_getI (pc := 27) C dX1_removeFirst_27 fl_X1_31 fi_X1_5 (fun v2 => ?_)
    refine j_iconst (pc := 30) C dX1_removeFirst_30 (v := 1) rfl ?_
    refine j_isub (pc := 31) C dX1_removeFirst_31 ?_
    refine j_putI (pc := 32) C dX1_removeFirst_32 fl_X1_31 fi_X1_5 rfl rfl (fun M3 => ?_)
    exact j_return (pc := 35) C rfl dX1_removeFirst_35 ⟨Nat.zero_le _, Nat.zero_le _⟩
  · refine j_aload_n (pc := 10) C dX1_removeFirst_10 rfl ?_
    refine j_aload_n (pc := 11) C dX1_removeFirst_11 rfl ?_
    refine j_iload_n (pc := 12) C dX1_removeFirst_12 rfl ?_
    refine j_iload_n (pc := 13) C dX1_removeFirst_13 rfl ?_
    refine j_iconst (pc := 14) C dX1_removeFirst_14 (v := 1) rfl ?_
    refine j_isub (pc := 15) C dX1_removeFirst_15 ?_
    refine j_callVv (pc := 16) C rfl dX1_removeFirst_16 lv_X1_69 rfl (Nat.le_of_ble_eq_true rfl) (Nat.le_of_ble_eq_true rfl) (by decide) (Or.inl rfl) ⟨Nat.le_refl _, Nat.le_refl _⟩ (fun l hl o ho => sp_X1_copyVehicle hl ho) (fun M4 => ?_)
    refine j_iinc (pc := 19) C dX1_removeFirst_19 rfl (v := (x1 + (1 : Int32))) rfl (Nat.le_of_ble_eq_true rfl) (ls' := [(1, .int (x1 + (1 : Int32))), (0, .ref x0)]) rfl ?_
    refine j_goto (pc := 22) C dX1_removeFirst_22 (tgt := 2) (by decide) ?_
    refine j_loc [1, 0] rfl ?_
    exact h2 x0 (x1 + (1 : Int32)) M4
theorem t_X1_removeFirst_l2 {z : Sh9} {N : Nv9} {X : Cx9} {out : Out9 × Mem9} (C : OK9 z N X out 2 (co9 out.1) cX1_removeFirst RX1 1 0 [])  : ∀ (n : Nat) (x0 : Nat) (x1 : Int32) (M : Mem9), J9 z N X out 2 2 [(0, .ref x0), (1, .int x1)] [] M (0, 0) (fx9 (fun _ _ _ => none) (f_X1_removeFirst_b2 z ) n x0 x1 M) := by
  intro n
  induction n with
  | zero => intro x0 x1 M; exact j_none
  | succ n ih => intro x0 x1 M; exact t_X1_removeFirst_b2 C  ih x0 x1 M
def f_X1_removeFirst (z : Sh9) (a0 : Nat) (M : Mem9) : Re9 :=
  (fx9 (fun _ _ _ => none) (f_X1_removeFirst_b2 z ) FU9 a0 (1 : Int32) M)
set_option maxRecDepth 20000 in
set_option maxHeartbeats 4000000 in
theorem t_X1_removeFirst {z : Sh9} {N : Nv9} {X : Cx9} {out : Out9 × Mem9} (C : OK9 z N X out 2 (co9 out.1) cX1_removeFirst RX1 1 0 []) (a0 : Nat) (M : Mem9) : J9 z N X out 2 0 [(0, .ref a0)] [] M (0, 0) (f_X1_removeFirst z a0 M) := by
  refine j_iconst (pc := 0) C dX1_removeFirst_0 (v := 1) rfl ?_
  refine j_istore_n (pc := 1) C dX1_removeFirst_1 (Nat.le_of_ble_eq_true rfl) (ls' := [(1, .int (1 : Int32)), (0, .ref a0)]) rfl ?_
  refine j_loc [1, 0] rfl ?_
  exact t_X1_removeFirst_l2 C  FU9 a0 (1 : Int32) M
theorem sp_X1_removeFirst {l : Launch} {z : Sh9} {N : Nv9} {a0 : Nat} {M : Mem9} {o : Out9 × Mem9} (hl : l.stackTraces = false) (h : f_X1_removeFirst z a0 M = some o) : Sp9 l z N yX1_removeFirst (Cond.code yX1_removeFirst cX1_removeFirst 2 none) 1 [.ref a0] M (co9 o.1) o :=
  sp9_of (rk := 0) (own := RX1) (by decide +kernel) rfl (Or.inl ⟨rfl, rfl⟩) hl (Nat.le_of_ble_eq_true rfl) (fun X C => t_X1_removeFirst C a0 M) h
def f_X1_moveVehicles_b2 (z : Sh9) (r2 : Nat → Int32 → Mem9 → Re9) (x0 : Nat) (x1 : Int32) (M : Mem9) : Re9 :=
  ((gf9 z M x0 1 5).bind fun v1 => (if v1 ≤ x1 then ((gf9 z M x0 1 5).bind fun v2 => (if v2 ≤ 0 then (rv9 M) else (bi9 (iv9 z x0 1 (f_X1_lastCell z x0 (0 : Int32) M)) fun v4 M3 => (if v4 ≤ (39 : Int32) then (rv9 M3) else (bv9 (iv9 z x0 1 (f_X1_removeFirst z x0  M3)) fun M5 => ((gf9 z M5 x0 1 12).bind fun v6 => ((pf9 z M5 x0 1 12 (v6 + (1 : Int32))).bind fun M7 => (rv9 M7)))))))) else (bi9 (iv9 z x0 1 (f_X1_canMove z x0 x1 M)) fun v11 M10 => (if v11 = 0 then (r2 x0 (x1 + (1 : Int32)) M10) else ((rf9 z x0 1 2).bind fun v12 => ((ld9 z M10 10 v12 x1).bind fun v13 => ((st9 z M10 v12 x1 (v13 + (1 : Int32))).bind fun M14 => (r2 x0 (x1 + (1 : Int32)) M14))))))))
set_option maxRecDepth 20000 in
set_option maxHeartbeats 4000000 in
theorem t_X1_moveVehicles_b2 {z : Sh9} {N : Nv9} {X : Cx9} {out : Out9 × Mem9} (C : OK9 z N X out 2 (co9 out.1) cX1_moveVehicles RX1 2 0 []) {r2 : Nat → Int32 → Mem9 → Re9} (h2 : ∀ (x0 : Nat) (x1 : Int32) (M : Mem9), J9 z N X out 2 2 [(0, .ref x0), (1, .int x1)] [] M (0, 0) (r2 x0 x1 M)) (x0 : Nat) (x1 : Int32) (M : Mem9) : J9 z N X out 2 2 [(0, .ref x0), (1, .int x1)] [] M (0, 0) (f_X1_moveVehicles_b2 z r2 x0 x1 M) := by
  refine j_iload_n (pc := 2) C dX1_moveVehicles_2 rfl ?_
  refine j_aload_n (pc := 3) C dX1_moveVehicles_3 rfl ?_
  refine j_getI (pc := 4) C dX1_moveVehicles_4 fl_X1_31 fi_X1_5 (fun v1 => ?_)
  refine j_icmp_ge (pc := 7) C dX1_moveVehicles_7 (tgt := 34) (by decide) (fun hc16 => ?_) (fun hc16 => ?_)
  · refine j_aload_n (pc := 34) C dX1_moveVehicles_34 rfl ?_
    refine j_getI (pc := 35) C dX1_moveVehicles_35 fl_X1_31 fi_X1_5 (fun v2 => ?_)
    refine j_if_le (pc := 38) C dX1_moveVehicles_38 (tgt := 65) (by decide) (fun hc9 => ?_) (fun hc9 => ?_)
    · exact j_return (pc := 65) C rfl dX1_moveVehicles_65 ⟨Nat.zero_le _, Nat.zero_le _⟩
    · refine j_aload_n (pc := 41) C dX1_moveVehicles_41 rfl ?_
      refine j_iconst (pc := 42) C dX1_moveVehicles_42 (v := 0) rfl ?_
      refine j_callVi (pc := 43) C rfl dX1_moveVehicles_43 lv_X1_73 rfl (Nat.le_of_ble_eq_true rfl) (Nat.le_of_ble_eq_true rfl) (by decide) (Or.inl rfl) ⟨Nat.le_refl _, Nat.le_refl _⟩ (fun l hl o ho => sp_X1_lastCell hl ho) (fun v4 M3 => ?_)
      refine j_bipush (pc := 46) C dX1_moveVehicles_46 (v := 39) rfl ?_
      refine j_icmp_le (pc := 48) C dX1_moveVehicles_48 (tgt := 65) (by decide) (fun hc8 => ?_) (fun hc8 => ?_)
      · exact j_return (pc := 65) C rfl dX1_moveVehicles_65 ⟨Nat.zero_le _, Nat.zero_le _⟩
      · refine j_aload_n (pc := 51) C dX1_moveVehicles_51 rfl ?_
        refine j_callVv (pc := 52) C rfl dX1_moveVehicles_52 lv_X1_108 rfl (Nat.le_of_ble_eq_true rfl) (Nat.le_of_ble_eq_true rfl) (by decide) (Or.inl rfl) ⟨Nat.le_refl _, Nat.le_refl _⟩ (fun l hl o ho => sp_X1_removeFirst hl ho) (fun M5 => ?_)
        refine j_aload_n (pc := 55) C dX1_moveVehicles_55 rfl ?_
        refine j_dup (pc := 56) C dX1_moveVehicles_56 rfl ?_
        refine j_getI (pc := 57) C dX1_moveVehicles_57 fl_X1_54 fi_X1_12 (fun v6 => ?_)
        refine j_iconst (pc := 60) C dX1_moveVehicles_60 (v := 1) rfl ?_
        refine j_iadd (pc := 61) C dX1_moveVehicles_61 ?_
        refine j_putI (pc := 62) C dX1_moveVehicles_62 fl_X1_54 fi_X1_12 rfl rfl (fun M7 => ?_)
        exact j_return (pc := 65) C rfl dX1_moveVehicles_65 ⟨Nat.zero_le _, Nat.zero_le _⟩
  · refine j_aload_n (pc := 10) C dX1_moveVehicles_10 rfl ?_
    refine j_iload_n (pc := 11) C dX1_moveVehicles_11 rfl ?_
    refine j_callVi (pc := 12) C rfl dX1_moveVehicles_12 lv_X1_104 rfl (Nat.le_of_ble_eq_true rfl) (Nat.le_of_ble_eq_true rfl) (by decide) (Or.inl rfl) ⟨Nat.le_refl _, Nat.le_refl _⟩ (fun l hl o ho => sp_X1_canMove hl ho) (fun v11 M10 => ?_)
    refine j_if_eq (pc := 15) C dX1_moveVehicles_15 (tgt := 28) (by decide) (fun hc15 => ?_) (fun hc15 => ?_)
    · refine j_iinc (pc := 28) C dX1_moveVehicles_28 rfl (v := (x1 + (1 : Int32))) rfl (Nat.le_of_ble_eq_true rfl) (ls' := [(1, .int (x1 + (1 : Int32))), (0, .ref x0)]) rfl ?_
      refine j_goto (pc := 31) C dX1_moveVehicles_31 (tgt := 2) (by decide) ?_
      refine j_loc [1, 0] rfl ?_
      exact h2 x0 (x1 + (1 : Int32)) M10
    · refine j_aload_n (pc := 18) C dX1_moveVehicles_18 rfl ?_
      refine j_getR (pc := 19) C dX1_moveVehicles_19 fl_X1_15 fr_X1_1 (fun v12 => ?_)
      refine j_iload_n (pc := 22) C dX1_moveVehicles_22 rfl ?_
      refine j_dup2_11 (pc := 23) C dX1_moveVehicles_23 rfl rfl ?_
      refine j_iaload (pc := 24) C dX1_moveVehicles_24 (fun v13 => ?_)
      refine j_iconst (pc := 25) C dX1_moveVehicles_25 (v := 1) rfl ?_
      refine j_iadd (pc := 26) C dX1_moveVehicles_26 ?_
      refine j_iastore (pc := 27) C dX1_moveVehicles_27 (fun M14 => ?_)
      refine j_iinc (pc := 28) C dX1_moveVehicles_28 rfl (v := (x1 + (1 : Int32))) rfl (Nat.le_of_ble_eq_true rfl) (ls' := [(1, .int (x1 + (1 : Int32))), (0, .ref x0)]) rfl ?_
      refine j_goto (pc := 31) C dX1_moveVehicles_31 (tgt := 2) (by decide) ?_
      refine j_loc [1, 0] rfl ?_
      exact h2 x0 (x1 + (1 : Int32)) M14
theorem t_X1_moveVehicles_l2 {z : Sh9} {N : Nv9} {X : Cx9} {out : Out9 × Mem9} (C : OK9 z N X out 2 (co9 out.1) cX1_moveVehicles RX1 2 0 [])  : ∀ (n : Nat) (x0 : Nat) (x1 : Int32) (M : Mem9), J9 z N X out 2 2 [(0, .ref x0), (1, .int x1)] [] M (0, 0) (fx9 (fun _ _ _ => none) (f_X1_moveVehicles_b2 z ) n x0 x1 M) := by
  intro n
  induction n with
  | zero => intro x0 x1 M; exact j_none
  | succ n ih => intro x0 x1 M; exact t_X1_moveVehicles_b2 C  ih x0 x1 M
def f_X1_moveVehicles (z : Sh9) (a0 : Nat) (M : Mem9) : Re9 :=
  (fx9 (fun _ _ _ => none) (f_X1_moveVehicles_b2 z ) FU9 a0 (0 : Int32) M)
set_option maxRecDepth 20000 in
set_option maxHeartbeats 4000000 in
theorem t_X1_moveVehicles {z : Sh9} {N : Nv9} {X : Cx9} {out : Out9 × Mem9} (C : OK9 z N X out 2 (co9 out.1) cX1_moveVehicles RX1 2 0 []) (a0 : Nat) (M : Mem9) : J9 z N X out 2 0 [(0, .ref a0)] [] M (0, 0) (f_X1_moveVehicles z a0 M) := by
  refine j_iconst (pc := 0) C dX1_moveVehicles_0 (v := 0) rfl ?_
  refine j_istore_n (pc := 1) C dX1_moveVehicles_1 (Nat.le_of_ble_eq_true rfl) (ls' := [(1, .int (0 : Int32)), (0, .ref a0)]) rfl ?_
  refine j_loc [1, 0] rfl ?_
  exact t_X1_moveVehicles_l2 C  FU9 a0 (0 : Int32) M
theorem sp_X1_moveVehicles {l : Launch} {z : Sh9} {N : Nv9} {a0 : Nat} {M : Mem9} {o : Out9 × Mem9} (hl : l.stackTraces = false) (h : f_X1_moveVehicles z a0 M = some o) : Sp9 l z N yX1_moveVehicles (Cond.code yX1_moveVehicles cX1_moveVehicles 2 none) 2 [.ref a0] M (co9 o.1) o :=
  sp9_of (rk := 0) (own := RX1) (by decide +kernel) rfl (Or.inl ⟨rfl, rfl⟩) hl (Nat.le_of_ble_eq_true rfl) (fun X C => t_X1_moveVehicles C a0 M) h
def f_X1_isLoopCovered_b2 (z : Sh9) (r2 : Nat → Int32 → Mem9 → Re9) (x0 : Nat) (x1 : Int32) (M : Mem9) : Re9 :=
  ((gf9 z M x0 1 5).bind fun v1 => (if v1 ≤ x1 then (rz9 (0 : Int32) M) else ((rf9 z x0 1 2).bind fun v2 => ((ld9 z M 10 v2 x1).bind fun v3 => (if v3 < (20 : Int32) then (r2 x0 (x1 + (1 : Int32)) M) else (bi9 (iv9 z x0 1 (f_X1_lastCell z x0 x1 M)) fun v5 M4 => (if (21 : Int32) < v5 then (r2 x0 (x1 + (1 : Int32)) M4) else (rz9 (1 : Int32) M4))))))))
set_option maxRecDepth 20000 in
set_option maxHeartbeats 4000000 in
theorem t_X1_isLoopCovered_b2 {z : Sh9} {N : Nv9} {X : Cx9} {out : Out9 × Mem9} (C : OK9 z N X out 2 (co9 out.1) cX1_isLoopCovered RX1 1 2 []) {r2 : Nat → Int32 → Mem9 → Re9} (h2 : ∀ (x0 : Nat) (x1 : Int32) (M : Mem9), J9 z N X out 2 2 [(0, .ref x0), (1, .int x1)] [] M (0, 0) (r2 x0 x1 M)) (x0 : Nat) (x1 : Int32) (M : Mem9) : J9 z N X out 2 2 [(0, .ref x0), (1, .int x1)] [] M (0, 0) (f_X1_isLoopCovered_b2 z r2 x0 x1 M) := by
  refine j_iload_n (pc := 2) C dX1_isLoopCovered_2 rfl ?_
  refine j_aload_n (pc := 3) C dX1_isLoopCovered_3 rfl ?_
  refine j_getI (pc := 4) C dX1_isLoopCovered_4 fl_X1_31 fi_X1_5 (fun v1 => ?_)
  refine j_icmp_ge (pc := 7) C dX1_isLoopCovered_7 (tgt := 39) (by decide) (fun hc8 => ?_) (fun hc8 => ?_)
  · refine j_iconst (pc := 39) C dX1_isLoopCovered_39 (v := 0) rfl ?_
    exact j_zreturn (pc := 40) C rfl dX1_isLoopCovered_40 ⟨Nat.zero_le _, Nat.zero_le _⟩
  · refine j_aload_n (pc := 10) C dX1_isLoopCovered_10 rfl ?_
    refine j_getR (pc := 11) C dX1_isLoopCovered_11 fl_X1_15 fr_X1_1 (fun v2 => ?_)
    refine j_iload_n (pc := 14) C dX1_isLoopCovered_14 rfl ?_
    refine j_iaload (pc := 15) C dX1_isLoopCovered_15 (fun v3 => ?_)
    refine j_bipush (pc := 16) C dX1_isLoopCovered_16 (v := 20) rfl ?_
    refine j_icmp_lt (pc := 18) C dX1_isLoopCovered_18 (tgt := 33) (by decide) (fun hc7 => ?_) (fun hc7 => ?_)
    · refine j_iinc (pc := 33) C dX1_isLoopCovered_33 rfl (v := (x1 + (1 : Int32))) rfl (Nat.le_of_ble_eq_true rfl) (ls' := [(1, .int (x1 + (1 : Int32))), (0, .ref x0)]) rfl ?_
      refine j_goto (pc := 36) C dX1_isLoopCovered_36 (tgt := 2) (by decide) ?_
      refine j_loc [1, 0] rfl ?_
      exact h2 x0 (x1 + (1 : Int32)) M
    · refine j_aload_n (pc := 21) C dX1_isLoopCovered_21 rfl ?_
      refine j_iload_n (pc := 22) C dX1_isLoopCovered_22 rfl ?_
      refine j_callVi (pc := 23) C rfl dX1_isLoopCovered_23 lv_X1_73 rfl (Nat.le_of_ble_eq_true rfl) (Nat.le_of_ble_eq_true rfl) (by decide) (Or.inl rfl) ⟨Nat.le_refl _, Nat.le_refl _⟩ (fun l hl o ho => sp_X1_lastCell hl ho) (fun v5 M4 => ?_)
      refine j_bipush (pc := 26) C dX1_isLoopCovered_26 (v := 21) rfl ?_
      refine j_icmp_gt (pc := 28) C dX1_isLoopCovered_28 (tgt := 33) (by decide) (fun hc6 => ?_) (fun hc6 => ?_)
      · refine j_iinc (pc := 33) C dX1_isLoopCovered_33 rfl (v := (x1 + (1 : Int32))) rfl (Nat.le_of_ble_eq_true rfl) (ls' := [(1, .int (x1 + (1 : Int32))), (0, .ref x0)]) rfl ?_
        refine j_goto (pc := 36) C dX1_isLoopCovered_36 (tgt := 2) (by decide) ?_
        refine j_loc [1, 0] rfl ?_
        exact h2 x0 (x1 + (1 : Int32)) M4
      · refine j_iconst (pc := 31) C dX1_isLoopCovered_31 (v := 1) rfl ?_
        exact j_zreturn (pc := 32) C rfl dX1_isLoopCovered_32 ⟨Nat.zero_le _, Nat.zero_le _⟩
theorem t_X1_isLoopCovered_l2 {z : Sh9} {N : Nv9} {X : Cx9} {out : Out9 × Mem9} (C : OK9 z N X out 2 (co9 out.1) cX1_isLoopCovered RX1 1 2 [])  : ∀ (n : Nat) (x0 : Nat) (x1 : Int32) (M : Mem9), J9 z N X out 2 2 [(0, .ref x0), (1, .int x1)] [] M (0, 0) (fx9 (fun _ _ _ => none) (f_X1_isLoopCovered_b2 z ) n x0 x1 M) := by
  intro n
  induction n with
  | zero => intro x0 x1 M; exact j_none
  | succ n ih => intro x0 x1 M; exact t_X1_isLoopCovered_b2 C  ih x0 x1 M
def f_X1_isLoopCovered (z : Sh9) (a0 : Nat) (M : Mem9) : Re9 :=
  (fx9 (fun _ _ _ => none) (f_X1_isLoopCovered_b2 z ) FU9 a0 (0 : Int32) M)
set_option maxRecDepth 20000 in
set_option maxHeartbeats 4000000 in
theorem t_X1_isLoopCovered {z : Sh9} {N : Nv9} {X : Cx9} {out : Out9 × Mem9} (C : OK9 z N X out 2 (co9 out.1) cX1_isLoopCovered RX1 1 2 []) (a0 : Nat) (M : Mem9) : J9 z N X out 2 0 [(0, .ref a0)] [] M (0, 0) (f_X1_isLoopCovered z a0 M) := by
  refine j_iconst (pc := 0) C dX1_isLoopCovered_0 (v := 0) rfl ?_
  refine j_istore_n (pc := 1) C dX1_isLoopCovered_1 (Nat.le_of_ble_eq_true rfl) (ls' := [(1, .int (0 : Int32)), (0, .ref a0)]) rfl ?_
  refine j_loc [1, 0] rfl ?_
  exact t_X1_isLoopCovered_l2 C  FU9 a0 (0 : Int32) M
theorem sp_X1_isLoopCovered {l : Launch} {z : Sh9} {N : Nv9} {a0 : Nat} {M : Mem9} {o : Out9 × Mem9} (hl : l.stackTraces = false) (h : f_X1_isLoopCovered z a0 M = some o) : Sp9 l z N yX1_isLoopCovered (Cond.code yX1_isLoopCovered cX1_isLoopCovered 2 (some .boolean)) 1 [.ref a0] M (co9 o.1) o :=
  sp9_of (rk := 2) (own := RX1) (by decide +kernel) rfl (Or.inr (Or.inr (Or.inl ⟨rfl, rfl⟩))) hl (Nat.le_of_ble_eq_true rfl) (fun X C => t_X1_isLoopCovered C a0 M) h
def f_X1_letVehicleWaits_b2 (z : Sh9) (r2 : Nat → Int32 → Mem9 → Re9) (x0 : Nat) (x1 : Int32) (M : Mem9) : Re9 :=
  ((gf9 z M x0 1 5).bind fun v1 => (if v1 ≤ x1 then (rz9 (0 : Int32) M) else ((rf9 z x0 1 5).bind fun v2 => ((ld9 z M 11 v2 x1).bind fun v3 => (if v3 = 0 then (r2 x0 (x1 + (1 : Int32)) M) else ((rf9 z x0 1 2).bind fun v4 => ((ld9 z M 10 v4 x1).bind fun v5 => (if (19 : Int32) < v5 then (r2 x0 (x1 + (1 : Int32)) M) else (rz9 (1 : Int32) M)))))))))
set_option maxRecDepth 20000 in
set_option maxHeartbeats 4000000 in
theorem t_X1_letVehicleWaits_b2 {z : Sh9} {N : Nv9} {X : Cx9} {out : Out9 × Mem9} (C : OK9 z N X out 2 (co9 out.1) cX1_letVehicleWaits RX1 0 2 []) {r2 : Nat → Int32 → Mem9 → Re9} (h2 : ∀ (x0 : Nat) (x1 : Int32) (M : Mem9), J9 z N X out 2 2 [(0, .ref x0), (1, .int x1)] [] M (0, 0) (r2 x0 x1 M)) (x0 : Nat) (x1 : Int32) (M : Mem9) : J9 z N X out 2 2 [(0, .ref x0), (1, .int x1)] [] M (0, 0) (f_X1_letVehicleWaits_b2 z r2 x0 x1 M) := by
  refine j_iload_n (pc := 2) C dX1_letVehicleWaits_2 rfl ?_
  refine j_aload_n (pc := 3) C dX1_letVehicleWaits_3 rfl ?_
  refine j_getI (pc := 4) C dX1_letVehicleWaits_4 fl_X1_31 fi_X1_5 (fun v1 => ?_)
  refine j_icmp_ge (pc := 7) C dX1_letVehicleWaits_7 (tgt := 38) (by decide) (fun hc8 => ?_) (fun hc8 => ?_)
  · refine j_iconst (pc := 38) C dX1_letVehicleWaits_38 (v := 0) rfl ?_
    exact j_zreturn (pc := 39) C rfl dX1_letVehicleWaits_39 ⟨Nat.zero_le _, Nat.zero_le _⟩
  · refine j_aload_n (pc := 10) C dX1_letVehicleWaits_10 rfl ?_
    refine j_getR (pc := 11) C dX1_letVehicleWaits_11 fl_X1_25 fr_X1_4 (fun v2 => ?_)
    refine j_iload_n (pc := 14) C dX1_letVehicleWaits_14 rfl ?_
    refine j_baload (pc := 15) C dX1_letVehicleWaits_15 (fun v3 => ?_)
    refine j_if_eq (pc := 16) C dX1_letVehicleWaits_16 (tgt := 32) (by decide) (fun hc7 => ?_) (fun hc7 => ?_)
    · refine j_iinc (pc := 32) C dX1_letVehicleWaits_32 rfl (v := (x1 + (1 : Int32))) rfl (Nat.le_of_ble_eq_true rfl) (ls' := [(1, .int (x1 + (1 : Int32))), (0, .ref x0)]) rfl ?_
      refine j_goto (pc := 35) C dX1_letVehicleWaits_35 (tgt := 2) (by decide) ?_
      refine j_loc [1, 0] rfl ?_
      exact h2 x0 (x1 + (1 : Int32)) M
    · refine j_aload_n (pc := 19) C dX1_letVehicleWaits_19 rfl ?_
      refine j_getR (pc := 20) C dX1_letVehicleWaits_20 fl_X1_15 fr_X1_1 (fun v4 => ?_)
      refine j_iload_n (pc := 23) C dX1_letVehicleWaits_23 rfl ?_
      refine j_iaload (pc := 24) C dX1_letVehicleWaits_24 (fun v5 => ?_)
      refine j_bipush (pc := 25) C dX1_letVehicleWaits_25 (v := 19) rfl ?_
      refine j_icmp_gt (pc := 27) C dX1_letVehicleWaits_27 (tgt := 32) (by decide) (fun hc6 => ?_) (fun hc6 => ?_)
      · refine j_iinc (pc := 32) C dX1_letVehicleWaits_32 rfl (v := (x1 + (1 : Int32))) rfl (Nat.le_of_ble_eq_true rfl) (ls' := [(1, .int (x1 + (1 : Int32))), (0, .ref x0)]) rfl ?_
        refine j_goto (pc := 35) C dX1_letVehicleWaits_35 (tgt := 2) (by decide) ?_
        refine j_loc [1, 0] rfl ?_
        exact h2 x0 (x1 + (1 : Int32)) M
      · refine j_iconst (pc := 30) C dX1_letVehicleWaits_30 (v := 1) rfl ?_
        exact j_zreturn (pc := 31) C rfl dX1_letVehicleWaits_31 ⟨Nat.zero_le _, Nat.zero_le _⟩
theorem t_X1_letVehicleWaits_l2 {z : Sh9} {N : Nv9} {X : Cx9} {out : Out9 × Mem9} (C : OK9 z N X out 2 (co9 out.1) cX1_letVehicleWaits RX1 0 2 [])  : ∀ (n : Nat) (x0 : Nat) (x1 : Int32) (M : Mem9), J9 z N X out 2 2 [(0, .ref x0), (1, .int x1)] [] M (0, 0) (fx9 (fun _ _ _ => none) (f_X1_letVehicleWaits_b2 z ) n x0 x1 M) := by
  intro n
  induction n with
  | zero => intro x0 x1 M; exact j_none
  | succ n ih => intro x0 x1 M; exact t_X1_letVehicleWaits_b2 C  ih x0 x1 M
def f_X1_letVehicleWaits (z : Sh9) (a0 : Nat) (M : Mem9) : Re9 :=
  (fx9 (fun _ _ _ => none) (f_X1_letVehicleWaits_b2 z ) FU9 a0 (0 : Int32) M)
set_option maxRecDepth 20000 in
set_option maxHeartbeats 4000000 in
theorem t_X1_letVehicleWaits {z : Sh9} {N : Nv9} {X : Cx9} {out : Out9 × Mem9} (C : OK9 z N X out 2 (co9 out.1) cX1_letVehicleWaits RX1 0 2 []) (a0 : Nat) (M : Mem9) : J9 z N X out 2 0 [(0, .ref a0)] [] M (0, 0) (f_X1_letVehicleWaits z a0 M) := by
  refine j_iconst (pc := 0) C dX1_letVehicleWaits_0 (v := 0) rfl ?_
  refine j_istore_n (pc := 1) C dX1_letVehicleWaits_1 (Nat.le_of_ble_eq_true rfl) (ls' := [(1, .int (0 : Int32)), (0, .ref a0)]) rfl ?_
  refine j_loc [1, 0] rfl ?_
  exact t_X1_letVehicleWaits_l2 C  FU9 a0 (0 : Int32) M
theorem sp_X1_letVehicleWaits {l : Launch} {z : Sh9} {N : Nv9} {a0 : Nat} {M : Mem9} {o : Out9 × Mem9} (hl : l.stackTraces = false) (h : f_X1_letVehicleWaits z a0 M = some o) : Sp9 l z N yX1_letVehicleWaits (Cond.code yX1_letVehicleWaits cX1_letVehicleWaits 2 (some .boolean)) 0 [.ref a0] M (co9 o.1) o :=
  sp9_of (rk := 2) (own := RX1) (by decide +kernel) rfl (Or.inr (Or.inr (Or.inl ⟨rfl, rfl⟩))) hl (Nat.le_of_ble_eq_true rfl) (fun X C => t_X1_letVehicleWaits C a0 M) h
def f_X1_reason_b34 (z : Sh9)  (x0 : Nat) (M : Mem9) : Re9 :=
  ((gf9 z M x0 1 7).bind fun v11 => (if v11 ≤ 0 then (ri9 (0 : Int32) M) else (ri9 (3 : Int32) M)))
set_option maxRecDepth 20000 in
set_option maxHeartbeats 4000000 in
theorem t_X1_reason_b34 {z : Sh9} {N : Nv9} {X : Cx9} {out : Out9 × Mem9} (C : OK9 z N X out 1 (co9 out.1) cX1_reason RX1 2 1 [])  (x0 : Nat) (M : Mem9) : J9 z N X out 1 34 [(0, .ref x0)] [] M (0, 0) (f_X1_reason_b34 z  x0 M) := by
  refine j_aload_n (pc := 34) C dX1_reason_34 rfl ?_
  refine j_getI (pc := 35) C dX1_reason_35 fl_X1_38 fi_X1_7 (fun v11 => ?_)
  refine j_if_le (pc := 38) C dX1_reason_38 (tgt := 45) (by decide) (fun hc12 => ?_) (fun hc12 => ?_)
  · refine j_iconst (pc := 45) C dX1_reason_45 (v := 0) rfl ?_
    exact j_ireturn (pc := 46) C rfl dX1_reason_46 ⟨Nat.zero_le _, Nat.zero_le _⟩
  · refine j_iconst (pc := 41) C dX1_reason_41 (v := 3) rfl ?_
    refine j_goto (pc := 42) C dX1_reason_42 (tgt := 46) (by decide) ?_
    exact j_ireturn (pc := 46) C rfl dX1_reason_46 ⟨Nat.zero_le _, Nat.zero_le _⟩
def f_X1_reason (z : Sh9) (a0 : Nat) (M : Mem9) : Re9 :=
  ((gf9 z M a0 1 11).bind fun v1 => (if v1 = 0 then (bi9 (iv9 z a0 1 (f_X1_letVehicleWaits z a0  M)) fun v3 M2 => (if v3 = 0 then ((gf9 z M2 a0 1 10).bind fun v4 => (if v4 = 0 then (bi9 (iv9 z a0 1 (f_X1_isLoopCovered z a0  M2)) fun v6 M5 => (if v6 = 0 then (f_X1_reason_b34 z  a0 M5) else (ri9 (2 : Int32) M5))) else (f_X1_reason_b34 z  a0 M2))) else (ri9 (1 : Int32) M2))) else (ri9 (4 : Int32) M)))
set_option maxRecDepth 20000 in
set_option maxHeartbeats 4000000 in
theorem t_X1_reason {z : Sh9} {N : Nv9} {X : Cx9} {out : Out9 × Mem9} (C : OK9 z N X out 1 (co9 out.1) cX1_reason RX1 2 1 []) (a0 : Nat) (M : Mem9) : J9 z N X out 1 0 [(0, .ref a0)] [] M (0, 0) (f_X1_reason z a0 M) := by
  refine j_aload_n (pc := 0) C dX1_reason_0 rfl ?_
  refine j_getI (pc := 1) C dX1_reason_1 fl_X1_51 fi_X1_11 (fun v1 => ?_)
  refine j_if_eq (pc := 4) C dX1_reason_4 (tgt := 9) (by decide) (fun hc10 => ?_) (fun hc10 => ?_)
  · refine j_aload_n (pc := 9) C dX1_reason_9 rfl ?_
    refine j_callVi (pc := 10) C rfl dX1_reason_10 lv_X1_117 rfl (Nat.le_of_ble_eq_true rfl) (Nat.le_of_ble_eq_true rfl) (by decide) (Or.inl rfl) ⟨Nat.le_refl _, Nat.le_refl _⟩ (fun l hl o ho => sp_X1_letVehicleWaits hl ho) (fun v3 M2 => ?_)
    refine j_if_eq (pc := 13) C dX1_reason_13 (tgt := 18) (by decide) (fun hc9 => ?_) (fun hc9 => ?_)
    · refine j_aload_n (pc := 18) C dX1_reason_18 rfl ?_
      refine j_getI (pc := 19) C dX1_reason_19 fl_X1_47 fi_X1_10 (fun v4 => ?_)
      refine j_if_ne (pc := 22) C dX1_reason_22 (tgt := 34) (by decide) (fun hc8 => ?_) (fun hc8 => ?_)
      · exact t_X1_reason_b34 C  a0 M2
      · refine j_aload_n (pc := 25) C dX1_reason_25 rfl ?_
        refine j_callVi (pc := 26) C rfl dX1_reason_26 lv_X1_121 rfl (Nat.le_of_ble_eq_true rfl) (Nat.le_of_ble_eq_true rfl) (by decide) (Or.inl rfl) ⟨Nat.le_refl _, Nat.le_refl _⟩ (fun l hl o ho => sp_X1_isLoopCovered hl ho) (fun v6 M5 => ?_)
        refine j_if_eq (pc := 29) C dX1_reason_29 (tgt := 34) (by decide) (fun hc7 => ?_) (fun hc7 => ?_)
        · exact t_X1_reason_b34 C  a0 M5
        · refine j_iconst (pc := 32) C dX1_reason_32 (v := 2) rfl ?_
          exact j_ireturn (pc := 33) C rfl dX1_reason_33 ⟨Nat.zero_le _, Nat.zero_le _⟩
    · refine j_iconst (pc := 16) C dX1_reason_16 (v := 1) rfl ?_
      exact j_ireturn (pc := 17) C rfl dX1_reason_17 ⟨Nat.zero_le _, Nat.zero_le _⟩
  · refine j_iconst (pc := 7) C dX1_reason_7 (v := 4) rfl ?_
    exact j_ireturn (pc := 8) C rfl dX1_reason_8 ⟨Nat.zero_le _, Nat.zero_le _⟩
theorem sp_X1_reason {l : Launch} {z : Sh9} {N : Nv9} {a0 : Nat} {M : Mem9} {o : Out9 × Mem9} (hl : l.stackTraces = false) (h : f_X1_reason z a0 M = some o) : Sp9 l z N yX1_reason (Cond.code yX1_reason cX1_reason 1 (some .int)) 2 [.ref a0] M (co9 o.1) o :=
  sp9_of (rk := 1) (own := RX1) (by decide +kernel) rfl (Or.inr (Or.inl ⟨rfl, rfl⟩)) hl (Nat.le_of_ble_eq_true rfl) (fun X C => t_X1_reason C a0 M) h
def f_X1_tick_b40 (z : Sh9)  (x0 : Nat) (M : Mem9) : Re9 :=
  (bv9 (iv9 z x0 1 (f_X1_hitIfUnderArm z x0  M)) fun M11 => (bv9 (iv9 z x0 1 (f_X1_countThrough z x0  M11)) fun M12 => (rv9 M12)))
set_option maxRecDepth 20000 in
set_option maxHeartbeats 4000000 in
theorem t_X1_tick_b40 {z : Sh9} {N : Nv9} {X : Cx9} {out : Out9 × Mem9} (C : OK9 z N X out 2 (co9 out.1) cX1_tick RX1 3 0 [])  (x0 : Nat) (M : Mem9) : J9 z N X out 2 40 [(0, .ref x0)] [] M (0, 0) (f_X1_tick_b40 z  x0 M) := by
  refine j_aload_n (pc := 40) C dX1_tick_40 rfl ?_
  refine j_callVv (pc := 41) C rfl dX1_tick_41 lv_X1_98 rfl (Nat.le_of_ble_eq_true rfl) (Nat.le_of_ble_eq_true rfl) (by decide) (Or.inl rfl) ⟨Nat.le_refl _, Nat.le_refl _⟩ (fun l hl o ho => sp_X1_hitIfUnderArm hl ho) (fun M11 => ?_)
  refine j_aload_n (pc := 44) C dX1_tick_44 rfl ?_
  refine j_callVv (pc := 45) C rfl dX1_tick_45 lv_X1_101 rfl (Nat.le_of_ble_eq_true rfl) (Nat.le_of_ble_eq_true rfl) (by decide) (Or.inl rfl) ⟨Nat.le_refl _, Nat.le_refl _⟩ (fun l hl o ho => sp_X1_countThrough hl ho) (fun M12 => ?_)
  exact j_return (pc := 48) C rfl dX1_tick_48 ⟨Nat.zero_le _, Nat.zero_le _⟩
def f_X1_tick_b37 (z : Sh9)  (x0 : Nat) (s0 : Int32) (s1 : Nat) (M : Mem9) : Re9 :=
  (bv9 (iv9 z s1 1 (f_X1_moveArm z s1 s0 M)) fun M13 => (f_X1_tick_b40 z  x0 M13))
set_option maxRecDepth 20000 in
set_option maxHeartbeats 4000000 in
theorem t_X1_tick_b37 {z : Sh9} {N : Nv9} {X : Cx9} {out : Out9 × Mem9} (C : OK9 z N X out 2 (co9 out.1) cX1_tick RX1 3 0 [])  (x0 : Nat) (s0 : Int32) (s1 : Nat) (M : Mem9) : J9 z N X out 2 37 [(0, .ref x0)] [.int s0, .ref s1] M (0, 0) (f_X1_tick_b37 z  x0 s0 s1 M) := by
  refine j_callVv (pc := 37) C rfl dX1_tick_37 lv_X1_94 rfl (Nat.le_of_ble_eq_true rfl) (Nat.le_of_ble_eq_true rfl) (by decide) (Or.inl rfl) ⟨Nat.le_refl _, Nat.le_refl _⟩ (fun l hl o ho => sp_X1_moveArm hl ho) (fun M13 => ?_)
  exact t_X1_tick_b40 C  x0 M13
def f_X1_tick (z : Sh9) (a0 : Nat) (a1 : Nat) (M : Mem9) : Re9 :=
  (bv9 (iv9 z a0 1 (f_X1_moveVehicles z a0  M)) fun M1 => ((ld9 z M1 10 a1 (0 : Int32)).bind fun v2 => ((ld9 z M1 10 a1 (1 : Int32)).bind fun v3 => ((ld9 z M1 10 a1 (2 : Int32)).bind fun v4 => (bv9 (iv9 z a0 1 (f_X1_checkTicket z a0 v2 v3 v4 M1)) fun M5 => ((gf9 z M5 a0 1 11).bind fun v6 => (if v6 = 0 then (bi9 (iv9 z a0 1 (f_X1_reason z a0  M5)) fun v8 M7 => (if v8 = 0 then (f_X1_tick_b37 z  a0 (0 : Int32) a0 M7) else (f_X1_tick_b37 z  a0 (1 : Int32) a0 M7))) else (f_X1_tick_b40 z  a0 M5))))))))
set_option maxRecDepth 20000 in
set_option maxHeartbeats 4000000 in
theorem t_X1_tick {z : Sh9} {N : Nv9} {X : Cx9} {out : Out9 × Mem9} (C : OK9 z N X out 2 (co9 out.1) cX1_tick RX1 3 0 []) (a0 : Nat) (a1 : Nat) (M : Mem9) : J9 z N X out 2 0 [(0, .ref a0), (1, .ref a1)] [] M (0, 0) (f_X1_tick z a0 a1 M) := by
  refine j_aload_n (pc := 0) C dX1_tick_0 rfl ?_
  refine j_callVv (pc := 1) C rfl dX1_tick_1 lv_X1_83 rfl (Nat.le_of_ble_eq_true rfl) (Nat.le_of_ble_eq_true rfl) (by decide) (Or.inl rfl) ⟨Nat.le_refl _, Nat.le_refl _⟩ (fun l hl o ho => sp_X1_moveVehicles hl ho) (fun M1 => ?_)
  refine j_aload_n (pc := 4) C dX1_tick_4 rfl ?_
  refine j_aload_n (pc := 5) C dX1_tick_5 rfl ?_
  refine j_iconst (pc := 6) C dX1_tick_6 (v := 0) rfl ?_
  refine j_iaload (pc := 7) C dX1_tick_7 (fun v2 => ?_)
  refine j_aload_n (pc := 8) C dX1_tick_8 rfl ?_
  refine j_iconst (pc := 9) C dX1_tick_9 (v := 1) rfl ?_
  refine j_iaload (pc := 10) C dX1_tick_10 (fun v3 => ?_)
  refine j_aload_n (pc := 11) C dX1_tick_11 rfl ?_
  refine j_iconst (pc := 12) C dX1_tick_12 (v := 2) rfl ?_
  refine j_iaload (pc := 13) C dX1_tick_13 (fun v4 => ?_)
  refine j_callVv (pc := 14) C rfl dX1_tick_14 lv_X1_86 rfl (Nat.le_of_ble_eq_true rfl) (Nat.le_of_ble_eq_true rfl) (by decide) (Or.inl rfl) ⟨Nat.le_refl _, Nat.le_refl _⟩ (fun l hl o ho => sp_X1_checkTicket hl ho) (fun M5 => ?_)
  refine j_aload_n (pc := 17) C dX1_tick_17 rfl ?_
  refine j_getI (pc := 18) C dX1_tick_18 fl_X1_51 fi_X1_11 (fun v6 => ?_)
  refine j_if_ne (pc := 21) C dX1_tick_21 (tgt := 40) (by decide) (fun hc10 => ?_) (fun hc10 => ?_)
  · refine j_loc [0] rfl ?_
    exact t_X1_tick_b40 C  a0 M5
  · refine j_aload_n (pc := 24) C dX1_tick_24 rfl ?_
    refine j_aload_n (pc := 25) C dX1_tick_25 rfl ?_
    refine j_callVi (pc := 26) C rfl dX1_tick_26 lv_X1_90 rfl (Nat.le_of_ble_eq_true rfl) (Nat.le_of_ble_eq_true rfl) (by decide) (Or.inl rfl) ⟨Nat.le_refl _, Nat.le_refl _⟩ (fun l hl o ho => sp_X1_reason hl ho) (fun v8 M7 => ?_)
    refine j_if_eq (pc := 29) C dX1_tick_29 (tgt := 36) (by decide) (fun hc9 => ?_) (fun hc9 => ?_)
    · refine j_iconst (pc := 36) C dX1_tick_36 (v := 0) rfl ?_
      refine j_loc [0] rfl ?_
      exact t_X1_tick_b37 C  a0 (0 : Int32) a0 M7
    · refine j_iconst (pc := 32) C dX1_tick_32 (v := 1) rfl ?_
      refine j_goto (pc := 33) C dX1_tick_33 (tgt := 37) (by decide) ?_
      refine j_loc [0] rfl ?_
      exact t_X1_tick_b37 C  a0 (1 : Int32) a0 M7
theorem sp_X1_tick {l : Launch} {z : Sh9} {N : Nv9} {a0 : Nat} {a1 : Nat} {M : Mem9} {o : Out9 × Mem9} (hl : l.stackTraces = false) (h : f_X1_tick z a0 a1 M = some o) : Sp9 l z N yX1_tick (Cond.code yX1_tick cX1_tick 2 none) 3 [.ref a0, .ref a1] M (co9 o.1) o :=
  sp9_of (rk := 0) (own := RX1) (by decide +kernel) rfl (Or.inl ⟨rfl, rfl⟩) hl (Nat.le_of_ble_eq_true rfl) (fun X C => t_X1_tick C a0 a1 M) h
def f_X1_countUnlet_b4 (z : Sh9) (r4 : Nat → Int32 → Int32 → Mem9 → Re9) (x0 : Nat) (x1 : Int32) (x2 : Int32) (M : Mem9) : Re9 :=
  ((gf9 z M x0 1 5).bind fun v1 => (if v1 ≤ x2 then (ri9 x1 M) else ((rf9 z x0 1 5).bind fun v2 => ((ld9 z M 11 v2 x2).bind fun v3 => (if v3 = 0 then ((rf9 z x0 1 2).bind fun v4 => ((ld9 z M 10 v4 x2).bind fun v5 => (if (19 : Int32) < v5 then (r4 x0 x1 (x2 + (1 : Int32)) M) else (r4 x0 (x1 + (1 : Int32)) (x2 + (1 : Int32)) M)))) else (r4 x0 x1 (x2 + (1 : Int32)) M))))))
set_option maxRecDepth 20000 in
set_option maxHeartbeats 4000000 in
theorem t_X1_countUnlet_b4 {z : Sh9} {N : Nv9} {X : Cx9} {out : Out9 × Mem9} (C : OK9 z N X out 3 (co9 out.1) cX1_countUnlet RX1 0 1 []) {r4 : Nat → Int32 → Int32 → Mem9 → Re9} (h4 : ∀ (x0 : Nat) (x1 : Int32) (x2 : Int32) (M : Mem9), J9 z N X out 3 4 [(0, .ref x0), (1, .int x1), (2, .int x2)] [] M (0, 0) (r4 x0 x1 x2 M)) (x0 : Nat) (x1 : Int32) (x2 : Int32) (M : Mem9) : J9 z N X out 3 4 [(0, .ref x0), (1, .int x1), (2, .int x2)] [] M (0, 0) (f_X1_countUnlet_b4 z r4 x0 x1 x2 M) := by
  refine j_iload_n (pc := 4) C dX1_countUnlet_4 rfl ?_
  refine j_aload_n (pc := 5) C dX1_countUnlet_5 rfl ?_
  refine j_getI (pc := 6) C dX1_countUnlet_6 fl_X1_31 fi_X1_5 (fun v1 => ?_)
  refine j_icmp_ge (pc := 9) C dX1_countUnlet_9 (tgt := 41) (by decide) (fun hc8 => ?_) (fun hc8 => ?_)
  · refine j_iload_n (pc := 41) C dX1_countUnlet_41 rfl ?_
    exact j_ireturn (pc := 42) C rfl dX1_countUnlet_42 ⟨Nat.zero_le _, Nat.zero_le _⟩
  · refine j_aload_n (pc := 12) C dX1_countUnlet_12 rfl ?_
    refine j_getR (pc := 13) C dX1_countUnlet_13 fl_X1_25 fr_X1_4 (fun v2 => ?_)
    refine j_iload_n (pc := 16) C dX1_countUnlet_16 rfl ?_
    refine j_baload (pc := 17) C dX1_countUnlet_17 (fun v3 => ?_)
    refine j_if_ne (pc := 18) C dX1_countUnlet_18 (tgt := 35) (by decide) (fun hc7 => ?_) (fun hc7 => ?_)
    · refine j_iinc (pc := 35) C dX1_countUnlet_35 rfl (v := (x2 + (1 : Int32))) rfl (Nat.le_of_ble_eq_true rfl) (ls' := [(2, .int (x2 + (1 : Int32))), (0, .ref x0), (1, .int x1)]) rfl ?_
      refine j_goto (pc := 38) C dX1_countUnlet_38 (tgt := 4) (by decide) ?_
      refine j_loc [1, 2, 0] rfl ?_
      exact h4 x0 x1 (x2 + (1 : Int32)) M
    · refine j_aload_n (pc := 21) C dX1_countUnlet_21 rfl ?_
      refine j_getR (pc := 22) C dX1_countUnlet_22 fl_X1_15 fr_X1_1 (fun v4 => ?_)
      refine j_iload_n (pc := 25) C dX1_countUnlet_25 rfl ?_
      refine j_iaload (pc := 26) C dX1_countUnlet_26 (fun v5 => ?_)
      refine j_bipush (pc := 27) C dX1_countUnlet_27 (v := 19) rfl ?_
      refine j_icmp_gt (pc := 29) C dX1_countUnlet_29 (tgt := 35) (by decide) (fun hc6 => ?_) (fun hc6 => ?_)
      · refine j_iinc (pc := 35) C dX1_countUnlet_35 rfl (v := (x2 + (1 : Int32))) rfl (Nat.le_of_ble_eq_true rfl) (ls' := [(2, .int (x2 + (1 : Int32))), (0, .ref x0), (1, .int x1)]) rfl ?_
        refine j_goto (pc := 38) C dX1_countUnlet_38 (tgt := 4) (by decide) ?_
        refine j_loc [1, 2, 0] rfl ?_
        exact h4 x0 x1 (x2 + (1 : Int32)) M
      · refine j_iinc (pc := 32) C dX1_countUnlet_32 rfl (v := (x1 + (1 : Int32))) rfl (Nat.le_of_ble_eq_true rfl) (ls' := [(1, .int (x1 + (1 : Int32))), (0, .ref x0), (2, .int x2)]) rfl ?_
        refine j_iinc (pc := 35) C dX1_countUnlet_35 rfl (v := (x2 + (1 : Int32))) rfl (Nat.le_of_ble_eq_true rfl) (ls' := [(2, .int (x2 + (1 : Int32))), (1, .int (x1 + (1 : Int32))), (0, .ref x0)]) rfl ?_
        refine j_goto (pc := 38) C dX1_countUnlet_38 (tgt := 4) (by decide) ?_
        refine j_loc [2, 1, 0] rfl ?_
        exact h4 x0 (x1 + (1 : Int32)) (x2 + (1 : Int32)) M
theorem t_X1_countUnlet_l4 {z : Sh9} {N : Nv9} {X : Cx9} {out : Out9 × Mem9} (C : OK9 z N X out 3 (co9 out.1) cX1_countUnlet RX1 0 1 [])  : ∀ (n : Nat) (x0 : Nat) (x1 : Int32) (x2 : Int32) (M : Mem9), J9 z N X out 3 4 [(0, .ref x0), (1, .int x1), (2, .int x2)] [] M (0, 0) (fx9 (fun _ _ _ _ => none) (f_X1_countUnlet_b4 z ) n x0 x1 x2 M) := by
  intro n
  induction n with
  | zero => intro x0 x1 x2 M; exact j_none
  | succ n ih => intro x0 x1 x2 M; exact t_X1_countUnlet_b4 C  ih x0 x1 x2 M
def f_X1_countUnlet (z : Sh9) (a0 : Nat) (M : Mem9) : Re9 :=
  (fx9 (fun _ _ _ _ => none) (f_X1_countUnlet_b4 z ) FU9 a0 (0 : Int32) (0 : Int32) M)
set_option maxRecDepth 20000 in
set_option maxHeartbeats 4000000 in
theorem t_X1_countUnlet {z : Sh9} {N : Nv9} {X : Cx9} {out : Out9 × Mem9} (C : OK9 z N X out 3 (co9 out.1) cX1_countUnlet RX1 0 1 []) (a0 : Nat) (M : Mem9) : J9 z N X out 3 0 [(0, .ref a0)] [] M (0, 0) (f_X1_countUnlet z a0 M) := by
  refine j_iconst (pc := 0) C dX1_countUnlet_0 (v := 0) rfl ?_
  refine j_istore_n (pc := 1) C dX1_countUnlet_1 (Nat.le_of_ble_eq_true rfl) (ls' := [(1, .int (0 : Int32)), (0, .ref a0)]) rfl ?_
  refine j_iconst (pc := 2) C dX1_countUnlet_2 (v := 0) rfl ?_
  refine j_istore_n (pc := 3) C dX1_countUnlet_3 (Nat.le_of_ble_eq_true rfl) (ls' := [(2, .int (0 : Int32)), (1, .int (0 : Int32)), (0, .ref a0)]) rfl ?_
  refine j_loc [2, 1, 0] rfl ?_
  exact t_X1_countUnlet_l4 C  FU9 a0 (0 : Int32) (0 : Int32) M
theorem sp_X1_countUnlet {l : Launch} {z : Sh9} {N : Nv9} {a0 : Nat} {M : Mem9} {o : Out9 × Mem9} (hl : l.stackTraces = false) (h : f_X1_countUnlet z a0 M = some o) : Sp9 l z N yX1_countUnlet (Cond.code yX1_countUnlet cX1_countUnlet 3 (some .int)) 0 [.ref a0] M (co9 o.1) o :=
  sp9_of (rk := 1) (own := RX1) (by decide +kernel) rfl (Or.inr (Or.inl ⟨rfl, rfl⟩)) hl (Nat.le_of_ble_eq_true rfl) (fun X C => t_X1_countUnlet C a0 M) h
def f_X1_number (z : Sh9) (a0 : Nat) (a1 : Int32) (M : Mem9) : Re9 :=
  (if a1 = (0 : Int32) then ((gf9 z M a0 1 5).bind fun v1 => (ri9 v1 M)) else (if a1 = (1 : Int32) then ((gf9 z M a0 1 6).bind fun v3 => (ri9 v3 M)) else (if a1 = (2 : Int32) then ((gf9 z M a0 1 7).bind fun v5 => (ri9 v5 M)) else (if a1 = (3 : Int32) then ((gf9 z M a0 1 8).bind fun v7 => (ri9 v7 M)) else (if a1 = (4 : Int32) then ((gf9 z M a0 1 10).bind fun v9 => (if v9 = 0 then (ri9 (0 : Int32) M) else (ri9 (1 : Int32) M))) else (if a1 = (5 : Int32) then ((gf9 z M a0 1 11).bind fun v12 => (if v12 = 0 then (ri9 (0 : Int32) M) else (ri9 (1 : Int32) M))) else (if a1 = (6 : Int32) then ((gf9 z M a0 1 9).bind fun v15 => (ri9 v15 M)) else (bi9 (iv9 z a0 1 (f_X1_countUnlet z a0  M)) fun v18 M17 => (ri9 v18 M17)))))))))
set_option maxRecDepth 20000 in
set_option maxHeartbeats 4000000 in
theorem t_X1_number {z : Sh9} {N : Nv9} {X : Cx9} {out : Out9 × Mem9} (C : OK9 z N X out 2 (co9 out.1) cX1_number RX1 1 1 []) (a0 : Nat) (a1 : Int32) (M : Mem9) : J9 z N X out 2 0 [(0, .ref a0), (1, .int a1)] [] M (0, 0) (f_X1_number z a0 a1 M) := by
  refine j_iload_n (pc := 0) C dX1_number_0 rfl ?_
  refine j_ite (fun hc2 => ?_) (fun hc2 => ?_)
  · refine j_tsIn (pc := 1) C (0) dX1_number_1 (by rw [hc2]; rfl) (by decide) (off := 43) rfl (tgt := 44) (by decide) ?_
    refine j_aload_n (pc := 44) C dX1_number_44 rfl ?_
    refine j_getI (pc := 45) C dX1_number_45 fl_X1_31 fi_X1_5 (fun v1 => ?_)
    exact j_ireturn (pc := 48) C rfl dX1_number_48 ⟨Nat.zero_le _, Nat.zero_le _⟩
  · refine j_ite (fun hc4 => ?_) (fun hc4 => ?_)
    · refine j_tsIn (pc := 1) C (1) dX1_number_1 (by rw [hc4]; rfl) (by decide) (off := 48) rfl (tgt := 49) (by decide) ?_
      refine j_aload_n (pc := 49) C dX1_number_49 rfl ?_
      refine j_getI (pc := 50) C dX1_number_50 fl_X1_35 fi_X1_6 (fun v3 => ?_)
      exact j_ireturn (pc := 53) C rfl dX1_number_53 ⟨Nat.zero_le _, Nat.zero_le _⟩
    · refine j_ite (fun hc6 => ?_) (fun hc6 => ?_)
      · refine j_tsIn (pc := 1) C (2) dX1_number_1 (by rw [hc6]; rfl) (by decide) (off := 53) rfl (tgt := 54) (by decide) ?_
        refine j_aload_n (pc := 54) C dX1_number_54 rfl ?_
        refine j_getI (pc := 55) C dX1_number_55 fl_X1_38 fi_X1_7 (fun v5 => ?_)
        exact j_ireturn (pc := 58) C rfl dX1_number_58 ⟨Nat.zero_le _, Nat.zero_le _⟩
      · refine j_ite (fun hc8 => ?_) (fun hc8 => ?_)
        · refine j_tsIn (pc := 1) C (3) dX1_number_1 (by rw [hc8]; rfl) (by decide) (off := 58) rfl (tgt := 59) (by decide) ?_
          refine j_aload_n (pc := 59) C dX1_number_59 rfl ?_
          refine j_getI (pc := 60) C dX1_number_60 fl_X1_41 fi_X1_8 (fun v7 => ?_)
          exact j_ireturn (pc := 63) C rfl dX1_number_63 ⟨Nat.zero_le _, Nat.zero_le _⟩
        · refine j_ite (fun hc11 => ?_) (fun hc11 => ?_)
          · refine j_tsIn (pc := 1) C (4) dX1_number_1 (by rw [hc11]; rfl) (by decide) (off := 63) rfl (tgt := 64) (by decide) ?_
            refine j_aload_n (pc := 64) C dX1_number_64 rfl ?_
            refine j_getI (pc := 65) C dX1_number_65 fl_X1_47 fi_X1_10 (fun v9 => ?_)
            refine j_if_eq (pc := 68) C dX1_number_68 (tgt := 75) (by decide) (fun hc10 => ?_) (fun hc10 => ?_)
            · refine j_iconst (pc := 75) C dX1_number_75 (v := 0) rfl ?_
              exact j_ireturn (pc := 76) C rfl dX1_number_76 ⟨Nat.zero_le _, Nat.zero_le _⟩
            · refine j_iconst (pc := 71) C dX1_number_71 (v := 1) rfl ?_
              refine j_goto (pc := 72) C dX1_number_72 (tgt := 76) (by decide) ?_
              exact j_ireturn (pc := 76) C rfl dX1_number_76 ⟨Nat.zero_le _, Nat.zero_le _⟩
          · refine j_ite (fun hc14 => ?_) (fun hc14 => ?_)
            · refine j_tsIn (pc := 1) C (5) dX1_number_1 (by rw [hc14]; rfl) (by decide) (off := 76) rfl (tgt := 77) (by decide) ?_
              refine j_aload_n (pc := 77) C dX1_number_77 rfl ?_
              refine j_getI (pc := 78) C dX1_number_78 fl_X1_51 fi_X1_11 (fun v12 => ?_)
              refine j_if_eq (pc := 81) C dX1_number_81 (tgt := 88) (by decide) (fun hc13 => ?_) (fun hc13 => ?_)
              · refine j_iconst (pc := 88) C dX1_number_88 (v := 0) rfl ?_
                exact j_ireturn (pc := 89) C rfl dX1_number_89 ⟨Nat.zero_le _, Nat.zero_le _⟩
              · refine j_iconst (pc := 84) C dX1_number_84 (v := 1) rfl ?_
                refine j_goto (pc := 85) C dX1_number_85 (tgt := 89) (by decide) ?_
                exact j_ireturn (pc := 89) C rfl dX1_number_89 ⟨Nat.zero_le _, Nat.zero_le _⟩
            · refine j_ite (fun hc16 => ?_) (fun hc16 => ?_)
              · refine j_tsIn (pc := 1) C (6) dX1_number_1 (by rw [hc16]; rfl) (by decide) (off := 89) rfl (tgt := 90) (by decide) ?_
                refine j_aload_n (pc := 90) C dX1_number_90 rfl ?_
                refine j_getI (pc := 91) C dX1_number_91 fl_X1_44 fi_X1_9 (fun v15 => ?_)
                exact j_ireturn (pc := 94) C rfl dX1_number_94 ⟨Nat.zero_le _, Nat.zero_le _⟩
              · refine j_tsOut (pc := 1) C dX1_number_1 (by have qhc2 := ne9 (k := 0) hc2 rfl; have qhc4 := ne9 (k := 1) hc4 rfl; have qhc6 := ne9 (k := 2) hc6 rfl; have qhc8 := ne9 (k := 3) hc8 rfl; have qhc11 := ne9 (k := 4) hc11 rfl; have qhc14 := ne9 (k := 5) hc14 rfl; have qhc16 := ne9 (k := 6) hc16 rfl; omega) (tgt := 95) (by decide) ?_
                refine j_aload_n (pc := 95) C dX1_number_95 rfl ?_
                refine j_callVi (pc := 96) C rfl dX1_number_96 lv_X1_130 rfl (Nat.le_of_ble_eq_true rfl) (Nat.le_of_ble_eq_true rfl) (by decide) (Or.inl rfl) ⟨Nat.le_refl _, Nat.le_refl _⟩ (fun l hl o ho => sp_X1_countUnlet hl ho) (fun v18 M17 => ?_)
                exact j_ireturn (pc := 99) C rfl dX1_number_99 ⟨Nat.zero_le _, Nat.zero_le _⟩
theorem sp_X1_number {l : Launch} {z : Sh9} {N : Nv9} {a0 : Nat} {a1 : Int32} {M : Mem9} {o : Out9 × Mem9} (hl : l.stackTraces = false) (h : f_X1_number z a0 a1 M = some o) : Sp9 l z N yX1_number (Cond.code yX1_number cX1_number 2 (some .int)) 1 [.ref a0, .int a1] M (co9 o.1) o :=
  sp9_of (rk := 1) (own := RX1) (by decide +kernel) rfl (Or.inr (Or.inl ⟨rfl, rfl⟩)) hl (Nat.le_of_ble_eq_true rfl) (fun X C => t_X1_number C a0 a1 M) h
def f_X2_isBetween (z : Sh9) (a0 : Int32) (a1 : Int32) (a2 : Int32) (M : Mem9) : Re9 :=
  (if a0 < a1 then (rz9 (0 : Int32) M) else (if a2 < a0 then (rz9 (0 : Int32) M) else (rz9 (1 : Int32) M)))
set_option maxRecDepth 20000 in
set_option maxHeartbeats 4000000 in
theorem t_X2_isBetween {z : Sh9} {N : Nv9} {X : Cx9} {out : Out9 × Mem9} (C : OK9 z N X out 3 (co9 out.1) cX2_isBetween RX2 0 2 []) (a0 : Int32) (a1 : Int32) (a2 : Int32) (M : Mem9) : J9 z N X out 3 0 [(0, .int a0), (1, .int a1), (2, .int a2)] [] M (0, 0) (f_X2_isBetween z a0 a1 a2 M) := by
  refine j_iload_n (pc := 0) C dX2_isBetween_0 rfl ?_
  refine j_iload_n (pc := 1) C dX2_isBetween_1 rfl ?_
  refine j_icmp_lt (pc := 2) C dX2_isBetween_2 (tgt := 14) (by decide) (fun hc2 => ?_) (fun hc2 => ?_)
  · refine j_iconst (pc := 14) C dX2_isBetween_14 (v := 0) rfl ?_
    exact j_zreturn (pc := 15) C rfl dX2_isBetween_15 ⟨Nat.zero_le _, Nat.zero_le _⟩
  · refine j_iload_n (pc := 5) C dX2_isBetween_5 rfl ?_
    refine j_iload_n (pc := 6) C dX2_isBetween_6 rfl ?_
    refine j_icmp_gt (pc := 7) C dX2_isBetween_7 (tgt := 14) (by decide) (fun hc1 => ?_) (fun hc1 => ?_)
    · refine j_iconst (pc := 14) C dX2_isBetween_14 (v := 0) rfl ?_
      exact j_zreturn (pc := 15) C rfl dX2_isBetween_15 ⟨Nat.zero_le _, Nat.zero_le _⟩
    · refine j_iconst (pc := 10) C dX2_isBetween_10 (v := 1) rfl ?_
      refine j_goto (pc := 11) C dX2_isBetween_11 (tgt := 15) (by decide) ?_
      exact j_zreturn (pc := 15) C rfl dX2_isBetween_15 ⟨Nat.zero_le _, Nat.zero_le _⟩
theorem sp_X2_isBetween {l : Launch} {z : Sh9} {N : Nv9} {a0 : Int32} {a1 : Int32} {a2 : Int32} {M : Mem9} {o : Out9 × Mem9} (hl : l.stackTraces = false) (h : f_X2_isBetween z a0 a1 a2 M = some o) : Sp9 l z N yX2_isBetween (Cond.code yX2_isBetween cX2_isBetween 3 (some .boolean)) 0 [.int a0, .int a1, .int a2] M (co9 o.1) o :=
  sp9_of (rk := 2) (own := RX2) (by decide +kernel) rfl (Or.inr (Or.inr (Or.inl ⟨rfl, rfl⟩))) hl (Nat.le_of_ble_eq_true rfl) (fun X C => t_X2_isBetween C a0 a1 a2 M) h
def f_X2_isSetting (z : Sh9) (a0 : Int32) (a1 : Int32) (M : Mem9) : Re9 :=
  (if a0 = (0 : Int32) then (bi9 (f_X2_isBetween z a1 (1 : Int32) (20 : Int32) M) fun v2 M1 => (rz9 v2 M1)) else (if a0 = (1 : Int32) then (bi9 (f_X2_isBetween z a1 (1 : Int32) (60 : Int32) M) fun v5 M4 => (rz9 v5 M4)) else (if a0 = (2 : Int32) then (bi9 (f_X2_isBetween z a1 (0 : Int32) (20 : Int32) M) fun v8 M7 => (rz9 v8 M7)) else (rz9 (0 : Int32) M))))
set_option maxRecDepth 20000 in
set_option maxHeartbeats 4000000 in
theorem t_X2_isSetting {z : Sh9} {N : Nv9} {X : Cx9} {out : Out9 × Mem9} (C : OK9 z N X out 2 (co9 out.1) cX2_isSetting RX2 1 2 []) (a0 : Int32) (a1 : Int32) (M : Mem9) : J9 z N X out 2 0 [(0, .int a0), (1, .int a1)] [] M (0, 0) (f_X2_isSetting z a0 a1 M) := by
  refine j_iload_n (pc := 0) C dX2_isSetting_0 rfl ?_
  refine j_ite (fun hc3 => ?_) (fun hc3 => ?_)
  · refine j_tsIn (pc := 1) C (0) dX2_isSetting_1 (by rw [hc3]; rfl) (by decide) (off := 27) rfl (tgt := 28) (by decide) ?_
    refine j_iload_n (pc := 28) C dX2_isSetting_28 rfl ?_
    refine j_iconst (pc := 29) C dX2_isSetting_29 (v := 1) rfl ?_
    refine j_bipush (pc := 30) C dX2_isSetting_30 (v := 20) rfl ?_
    refine j_callSi (pc := 32) C rfl dX2_isSetting_32 ls_X2_92 rfl (Nat.le_of_ble_eq_true rfl) (Nat.le_of_ble_eq_true rfl) (by decide) (Or.inl rfl) ⟨Nat.le_refl _, Nat.le_refl _⟩ (fun l hl o ho => sp_X2_isBetween hl ho) (fun v2 M1 => ?_)
    exact j_zreturn (pc := 35) C rfl dX2_isSetting_35 ⟨Nat.zero_le _, Nat.zero_le _⟩
  · refine j_ite (fun hc6 => ?_) (fun hc6 => ?_)
    · refine j_tsIn (pc := 1) C (1) dX2_isSetting_1 (by rw [hc6]; rfl) (by decide) (off := 35) rfl (tgt := 36) (by decide) ?_
      refine j_iload_n (pc := 36) C dX2_isSetting_36 rfl ?_
      refine j_iconst (pc := 37) C dX2_isSetting_37 (v := 1) rfl ?_
      refine j_bipush (pc := 38) C dX2_isSetting_38 (v := 60) rfl ?_
      refine j_callSi (pc := 40) C rfl dX2_isSetting_40 ls_X2_92 rfl (Nat.le_of_ble_eq_true rfl) (Nat.le_of_ble_eq_true rfl) (by decide) (Or.inl rfl) ⟨Nat.le_refl _, Nat.le_refl _⟩ (fun l hl o ho => sp_X2_isBetween hl ho) (fun v5 M4 => ?_)
      exact j_zreturn (pc := 43) C rfl dX2_isSetting_43 ⟨Nat.zero_le _, Nat.zero_le _⟩
    · refine j_ite (fun hc9 => ?_) (fun hc9 => ?_)
      · refine j_tsIn (pc := 1) C (2) dX2_isSetting_1 (by rw [hc9]; rfl) (by decide) (off := 43) rfl (tgt := 44) (by decide) ?_
        refine j_iload_n (pc := 44) C dX2_isSetting_44 rfl ?_
        refine j_iconst (pc := 45) C dX2_isSetting_45 (v := 0) rfl ?_
        refine j_bipush (pc := 46) C dX2_isSetting_46 (v := 20) rfl ?_
        refine j_callSi (pc := 48) C rfl dX2_isSetting_48 ls_X2_92 rfl (Nat.le_of_ble_eq_true rfl) (Nat.le_of_ble_eq_true rfl) (by decide) (Or.inl rfl) ⟨Nat.le_refl _, Nat.le_refl _⟩ (fun l hl o ho => sp_X2_isBetween hl ho) (fun v8 M7 => ?_)
        exact j_zreturn (pc := 51) C rfl dX2_isSetting_51 ⟨Nat.zero_le _, Nat.zero_le _⟩
      · refine j_tsOut (pc := 1) C dX2_isSetting_1 (by have qhc3 := ne9 (k := 0) hc3 rfl; have qhc6 := ne9 (k := 1) hc6 rfl; have qhc9 := ne9 (k := 2) hc9 rfl; omega) (tgt := 52) (by decide) ?_
        refine j_iconst (pc := 52) C dX2_isSetting_52 (v := 0) rfl ?_
        exact j_zreturn (pc := 53) C rfl dX2_isSetting_53 ⟨Nat.zero_le _, Nat.zero_le _⟩
theorem sp_X2_isSetting {l : Launch} {z : Sh9} {N : Nv9} {a0 : Int32} {a1 : Int32} {M : Mem9} {o : Out9 × Mem9} (hl : l.stackTraces = false) (h : f_X2_isSetting z a0 a1 M = some o) : Sp9 l z N yX2_isSetting (Cond.code yX2_isSetting cX2_isSetting 2 (some .boolean)) 1 [.int a0, .int a1] M (co9 o.1) o :=
  sp9_of (rk := 2) (own := RX2) (by decide +kernel) rfl (Or.inr (Or.inr (Or.inl ⟨rfl, rfl⟩))) hl (Nat.le_of_ble_eq_true rfl) (fun X C => t_X2_isSetting C a0 a1 M) h
def f_X1_canBeMended (z : Sh9) (a0 : Nat) (M : Mem9) : Re9 :=
  ((gf9 z M a0 1 11).bind fun v1 => (if v1 = 0 then (rz9 (0 : Int32) M) else (bi9 (iv9 z a0 1 (f_X1_isUnderArm z a0  M)) fun v3 M2 => (if v3 = 0 then (rz9 (1 : Int32) M2) else (rz9 (0 : Int32) M2)))))
set_option maxRecDepth 20000 in
set_option maxHeartbeats 4000000 in
theorem t_X1_canBeMended {z : Sh9} {N : Nv9} {X : Cx9} {out : Out9 × Mem9} (C : OK9 z N X out 1 (co9 out.1) cX1_canBeMended RX1 2 2 []) (a0 : Nat) (M : Mem9) : J9 z N X out 1 0 [(0, .ref a0)] [] M (0, 0) (f_X1_canBeMended z a0 M) := by
  refine j_aload_n (pc := 0) C dX1_canBeMended_0 rfl ?_
  refine j_getI (pc := 1) C dX1_canBeMended_1 fl_X1_51 fi_X1_11 (fun v1 => ?_)
  refine j_if_eq (pc := 4) C dX1_canBeMended_4 (tgt := 18) (by decide) (fun hc5 => ?_) (fun hc5 => ?_)
  · refine j_iconst (pc := 18) C dX1_canBeMended_18 (v := 0) rfl ?_
    exact j_zreturn (pc := 19) C rfl dX1_canBeMended_19 ⟨Nat.zero_le _, Nat.zero_le _⟩
  · refine j_aload_n (pc := 7) C dX1_canBeMended_7 rfl ?_
    refine j_callVi (pc := 8) C rfl dX1_canBeMended_8 lv_X1_124 rfl (Nat.le_of_ble_eq_true rfl) (Nat.le_of_ble_eq_true rfl) (by decide) (Or.inl rfl) ⟨Nat.le_refl _, Nat.le_refl _⟩ (fun l hl o ho => sp_X1_isUnderArm hl ho) (fun v3 M2 => ?_)
    refine j_if_ne (pc := 11) C dX1_canBeMended_11 (tgt := 18) (by decide) (fun hc4 => ?_) (fun hc4 => ?_)
    · refine j_iconst (pc := 18) C dX1_canBeMended_18 (v := 0) rfl ?_
      exact j_zreturn (pc := 19) C rfl dX1_canBeMended_19 ⟨Nat.zero_le _, Nat.zero_le _⟩
    · refine j_iconst (pc := 14) C dX1_canBeMended_14 (v := 1) rfl ?_
      refine j_goto (pc := 15) C dX1_canBeMended_15 (tgt := 19) (by decide) ?_
      exact j_zreturn (pc := 19) C rfl dX1_canBeMended_19 ⟨Nat.zero_le _, Nat.zero_le _⟩
theorem sp_X1_canBeMended {l : Launch} {z : Sh9} {N : Nv9} {a0 : Nat} {M : Mem9} {o : Out9 × Mem9} (hl : l.stackTraces = false) (h : f_X1_canBeMended z a0 M = some o) : Sp9 l z N yX1_canBeMended (Cond.code yX1_canBeMended cX1_canBeMended 1 (some .boolean)) 2 [.ref a0] M (co9 o.1) o :=
  sp9_of (rk := 2) (own := RX1) (by decide +kernel) rfl (Or.inr (Or.inr (Or.inl ⟨rfl, rfl⟩))) hl (Nat.le_of_ble_eq_true rfl) (fun X C => t_X1_canBeMended C a0 M) h
def f_X1_numberOfVehicle (z : Sh9) (a0 : Nat) (a1 : Int32) (a2 : Int32) (M : Mem9) : Re9 :=
  (bi9 (iv9 z a0 1 (f_X1_hasVehicle z a0 a1 M)) fun v2 M1 => (if v2 = 0 then (ri9 (-1 : Int32) M1) else (if a2 = (0 : Int32) then ((rf9 z a0 1 1).bind fun v3 => ((ld9 z M1 10 v3 a1).bind fun v4 => (ri9 v4 M1))) else (if a2 = (1 : Int32) then ((rf9 z a0 1 2).bind fun v6 => ((ld9 z M1 10 v6 a1).bind fun v7 => (ri9 v7 M1))) else (if a2 = (2 : Int32) then ((rf9 z a0 1 3).bind fun v9 => ((ld9 z M1 11 v9 a1).bind fun v10 => (if v10 = 0 then (ri9 (0 : Int32) M1) else (ri9 (1 : Int32) M1)))) else (if a2 = (3 : Int32) then ((rf9 z a0 1 4).bind fun v13 => ((ld9 z M1 11 v13 a1).bind fun v14 => (if v14 = 0 then (ri9 (0 : Int32) M1) else (ri9 (1 : Int32) M1)))) else ((rf9 z a0 1 5).bind fun v17 => ((ld9 z M1 11 v17 a1).bind fun v18 => (if v18 = 0 then (ri9 (0 : Int32) M1) else (ri9 (1 : Int32) M1))))))))))
set_option maxRecDepth 20000 in
set_option maxHeartbeats 4000000 in
theorem t_X1_numberOfVehicle {z : Sh9} {N : Nv9} {X : Cx9} {out : Out9 × Mem9} (C : OK9 z N X out 3 (co9 out.1) cX1_numberOfVehicle RX1 1 1 []) (a0 : Nat) (a1 : Int32) (a2 : Int32) (M : Mem9) : J9 z N X out 3 0 [(0, .ref a0), (1, .int a1), (2, .int a2)] [] M (0, 0) (f_X1_numberOfVehicle z a0 a1 a2 M) := by
  refine j_aload_n (pc := 0) C dX1_numberOfVehicle_0 rfl ?_
  refine j_iload_n (pc := 1) C dX1_numberOfVehicle_1 rfl ?_
  refine j_callVi (pc := 2) C rfl dX1_numberOfVehicle_2 lv_X1_127 rfl (Nat.le_of_ble_eq_true rfl) (Nat.le_of_ble_eq_true rfl) (by decide) (Or.inl rfl) ⟨Nat.le_refl _, Nat.le_refl _⟩ (fun l hl o ho => sp_X1_hasVehicle hl ho) (fun v2 M1 => ?_)
  refine j_if_ne (pc := 5) C dX1_numberOfVehicle_5 (tgt := 10) (by decide) (fun hc20 => ?_) (fun hc20 => ?_)
  · refine j_iload_n (pc := 10) C dX1_numberOfVehicle_10 rfl ?_
    refine j_ite (fun hc5 => ?_) (fun hc5 => ?_)
    · refine j_tsIn (pc := 11) C (0) dX1_numberOfVehicle_11 (by rw [hc5]; rfl) (by decide) (off := 29) rfl (tgt := 40) (by decide) ?_
      refine j_aload_n (pc := 40) C dX1_numberOfVehicle_40 rfl ?_
      refine j_getR (pc := 41) C dX1_numberOfVehicle_41 fl_X1_9 fr_X1_0 (fun v3 => ?_)
      refine j_iload_n (pc := 44) C dX1_numberOfVehicle_44 rfl ?_
      refine j_iaload (pc := 45) C dX1_numberOfVehicle_45 (fun v4 => ?_)
      exact j_ireturn (pc := 46) C rfl dX1_numberOfVehicle_46 ⟨Nat.zero_le _, Nat.zero_le _⟩
    · refine j_ite (fun hc8 => ?_) (fun hc8 => ?_)
      · refine j_tsIn (pc := 11) C (1) dX1_numberOfVehicle_11 (by rw [hc8]; rfl) (by decide) (off := 36) rfl (tgt := 47) (by decide) ?_
        refine j_aload_n (pc := 47) C dX1_numberOfVehicle_47 rfl ?_
        refine j_getR (pc := 48) C dX1_numberOfVehicle_48 fl_X1_15 fr_X1_1 (fun v6 => ?_)
        refine j_iload_n (pc := 51) C dX1_numberOfVehicle_51 rfl ?_
        refine j_iaload (pc := 52) C dX1_numberOfVehicle_52 (fun v7 => ?_)
        exact j_ireturn (pc := 53) C rfl dX1_numberOfVehicle_53 ⟨Nat.zero_le _, Nat.zero_le _⟩
      · refine j_ite (fun hc12 => ?_) (fun hc12 => ?_)
        · refine j_tsIn (pc := 11) C (2) dX1_numberOfVehicle_11 (by rw [hc12]; rfl) (by decide) (off := 43) rfl (tgt := 54) (by decide) ?_
          refine j_aload_n (pc := 54) C dX1_numberOfVehicle_54 rfl ?_
          refine j_getR (pc := 55) C dX1_numberOfVehicle_55 fl_X1_18 fr_X1_2 (fun v9 => ?_)
          refine j_iload_n (pc := 58) C dX1_numberOfVehicle_58 rfl ?_
          refine j_baload (pc := 59) C dX1_numberOfVehicle_59 (fun v10 => ?_)
          refine j_if_eq (pc := 60) C dX1_numberOfVehicle_60 (tgt := 67) (by decide) (fun hc11 => ?_) (fun hc11 => ?_)
          · refine j_iconst (pc := 67) C dX1_numberOfVehicle_67 (v := 0) rfl ?_
            exact j_ireturn (pc := 68) C rfl dX1_numberOfVehicle_68 ⟨Nat.zero_le _, Nat.zero_le _⟩
          · refine j_iconst (pc := 63) C dX1_numberOfVehicle_63 (v := 1) rfl ?_
            refine j_goto (pc := 64) C dX1_numberOfVehicle_64 (tgt := 68) (by decide) ?_
            exact j_ireturn (pc := 68) C rfl dX1_numberOfVehicle_68 ⟨Nat.zero_le _, Nat.zero_le _⟩
        · refine j_ite (fun hc16 => ?_) (fun hc16 => ?_)
          · refine j_tsIn (pc := 11) C (3) dX1_numberOfVehicle_11 (by rw [hc16]; rfl) (by decide) (off := 58) rfl (tgt := 69) (by decide) ?_
            refine j_aload_n (pc := 69) C dX1_numberOfVehicle_69 rfl ?_
            refine j_getR (pc := 70) C dX1_numberOfVehicle_70 fl_X1_22 fr_X1_3 (fun v13 => ?_)
            refine j_iload_n (pc := 73) C dX1_numberOfVehicle_73 rfl ?_
            refine j_baload (pc := 74) C dX1_numberOfVehicle_74 (fun v14 => ?_)
            refine j_if_eq (pc := 75) C dX1_numberOfVehicle_75 (tgt := 82) (by decide) (fun hc15 => ?_) (fun hc15 => ?_)
            · refine j_iconst (pc := 82) C dX1_numberOfVehicle_82 (v := 0) rfl ?_
              exact j_ireturn (pc := 83) C rfl dX1_numberOfVehicle_83 ⟨Nat.zero_le _, Nat.zero_le _⟩
            · refine j_iconst (pc := 78) C dX1_numberOfVehicle_78 (v := 1) rfl ?_
              refine j_goto (pc := 79) C dX1_numberOfVehicle_79 (tgt := 83) (by decide) ?_
              exact j_ireturn (pc := 83) C rfl dX1_numberOfVehicle_83 ⟨Nat.zero_le _, Nat.zero_le _⟩
          · refine j_tsOut (pc := 11) C dX1_numberOfVehicle_11 (by have qhc5 := ne9 (k := 0) hc5 rfl; have qhc8 := ne9 (k := 1) hc8 rfl; have qhc12 := ne9 (k := 2) hc12 rfl; have qhc16 := ne9 (k := 3) hc16 rfl; omega) (tgt := 84) (by decide) ?_
            refine j_aload_n (pc := 84) C dX1_numberOfVehicle_84 rfl ?_
            refine j_getR (pc := 85) C dX1_numberOfVehicle_85 fl_X1_25 fr_X1_4 (fun v17 => ?_)
            refine j_iload_n (pc := 88) C dX1_numberOfVehicle_88 rfl ?_
            refine j_baload (pc := 89) C dX1_numberOfVehicle_89 (fun v18 => ?_)
            refine j_if_eq (pc := 90) C dX1_numberOfVehicle_90 (tgt := 97) (by decide) (fun hc19 => ?_) (fun hc19 => ?_)
            · refine j_iconst (pc := 97) C dX1_numberOfVehicle_97 (v := 0) rfl ?_
              exact j_ireturn (pc := 98) C rfl dX1_numberOfVehicle_98 ⟨Nat.zero_le _, Nat.zero_le _⟩
            · refine j_iconst (pc := 93) C dX1_numberOfVehicle_93 (v := 1) rfl ?_
              refine j_goto (pc := 94) C dX1_numberOfVehicle_94 (tgt := 98) (by decide) ?_
              exact j_ireturn (pc := 98) C rfl dX1_numberOfVehicle_98 ⟨Nat.zero_le _, Nat.zero_le _⟩
  · refine j_iconst (pc := 8) C dX1_numberOfVehicle_8 (v := -1) rfl ?_
    exact j_ireturn (pc := 9) C rfl dX1_numberOfVehicle_9 ⟨Nat.zero_le _, Nat.zero_le _⟩
theorem sp_X1_numberOfVehicle {l : Launch} {z : Sh9} {N : Nv9} {a0 : Nat} {a1 : Int32} {a2 : Int32} {M : Mem9} {o : Out9 × Mem9} (hl : l.stackTraces = false) (h : f_X1_numberOfVehicle z a0 a1 a2 M = some o) : Sp9 l z N yX1_numberOfVehicle (Cond.code yX1_numberOfVehicle cX1_numberOfVehicle 3 (some .int)) 1 [.ref a0, .int a1, .int a2] M (co9 o.1) o :=
  sp9_of (rk := 1) (own := RX1) (by decide +kernel) rfl (Or.inr (Or.inl ⟨rfl, rfl⟩)) hl (Nat.le_of_ble_eq_true rfl) (fun X C => t_X1_numberOfVehicle C a0 a1 a2 M) h
