def f_X0_total_b4 (z : Sh9) (r4 : Nat → Int32 → Int32 → Int32 → Mem9 → Re9) (x0 : Nat) (x1 : Int32) (x2 : Int32) (x3 : Int32) (M : Mem9) : Re9 :=
  ((gf9 z M x0 0 2).bind fun v1 => (if v1 ≤ x3 then (ri9 x2 M) else ((rf9 z x0 0 1).bind fun v2 => ((la9 z 14 v2 x3).bind fun v3 => (bi9 (iv9 z v3 1 (f_X1_tally z v3 x1 M)) fun v5 M4 => (nm9 (x2 + v5) fun (y6 : Int32) => (r4 x0 x1 y6 (x3 + (1 : Int32)) M4)))))))
set_option maxRecDepth 20000 in
set_option maxHeartbeats 4000000 in
theorem t_X0_total_b4 {z : Sh9} {N : Nv9} {X : Cx9} {out : Out9 × Mem9} (C : OK9 z N X out 4 (co9 out.1) cX0_total RX0 1 1 []) {r4 : Nat → Int32 → Int32 → Int32 → Mem9 → Re9} (h4 : ∀ (x0 : Nat) (x1 : Int32) (x2 : Int32) (x3 : Int32) (M : Mem9), J9 z N X out 4 4 [(0, .ref x0), (1, .int x1), (2, .int x2), (3, .int x3)] [] M (0, 0) (r4 x0 x1 x2 x3 M)) (x0 : Nat) (x1 : Int32) (x2 : Int32) (x3 : Int32) (M : Mem9) : J9 z N X out 4 4 [(0, .ref x0), (1, .int x1), (2, .int x2), (3, .int x3)] [] M (0, 0) (f_X0_total_b4 z r4 x0 x1 x2 x3 M) := by
  refine j_iload_n (pc := 4) C dX0_total_4 rfl ?_
  refine j_aload_n (pc := 5) C dX0_total_5 rfl ?_
  refine j_getI (pc := 6) C dX0_total_6 fl_X0_25 fi_X0_2 (fun v1 => ?_)
  refine j_icmp_ge (pc := 9) C dX0_total_9 (tgt := 31) (by decide) (fun hc7 => ?_) (fun hc7 => ?_)
  · refine j_iload_n (pc := 31) C dX0_total_31 rfl ?_
    exact j_ireturn (pc := 32) C rfl dX0_total_32 ⟨Nat.zero_le _, Nat.zero_le _⟩
  · refine j_iload_n (pc := 12) C dX0_total_12 rfl ?_
    refine j_aload_n (pc := 13) C dX0_total_13 rfl ?_
    refine j_getR (pc := 14) C dX0_total_14 fl_X0_11 fr_X0_0 (fun v2 => ?_)
    refine j_iload_n (pc := 17) C dX0_total_17 rfl ?_
    refine j_aaload (t := 14) (pc := 18) C dX0_total_18 (by decide) (fun v3 => ?_)
    refine j_iload_n (pc := 19) C dX0_total_19 rfl ?_
    refine j_callVi (pc := 20) C rfl dX0_total_20 lv_X0_70 rfl (Nat.le_of_ble_eq_true rfl) (Nat.le_of_ble_eq_true rfl) (by decide) (Or.inl rfl) ⟨Nat.le_refl _, Nat.le_refl _⟩ (fun l hl o ho => sp_X1_tally hl ho) (fun v5 M4 => ?_)
    refine j_iadd (pc := 23) C dX0_total_23 ?_
    refine j_nm (st' := fun x9 : Int32 => .int x9 :: []) rfl (fun y6 => ?_)
    refine j_istore_n (pc := 24) C dX0_total_24 (Nat.le_of_ble_eq_true rfl) (ls' := [(2, .int y6), (0, .ref x0), (1, .int x1), (3, .int x3)]) rfl ?_
    refine j_iinc (pc := 25) C dX0_total_25 rfl (v := (x3 + (1 : Int32))) rfl (Nat.le_of_ble_eq_true rfl) (ls' := [(3, .int (x3 + (1 : Int32))), (2, .int y6), (0, .ref x0), (1, .int x1)]) rfl ?_
    refine j_goto (pc := 28) C dX0_total_28 (tgt := 4) (by decide) ?_
    refine j_loc [2, 3, 1, 0] rfl ?_
    exact h4 x0 x1 y6 (x3 + (1 : Int32)) M4
theorem t_X0_total_l4 {z : Sh9} {N : Nv9} {X : Cx9} {out : Out9 × Mem9} (C : OK9 z N X out 4 (co9 out.1) cX0_total RX0 1 1 [])  : ∀ (n : Nat) (x0 : Nat) (x1 : Int32) (x2 : Int32) (x3 : Int32) (M : Mem9), J9 z N X out 4 4 [(0, .ref x0), (1, .int x1), (2, .int x2), (3, .int x3)] [] M (0, 0) (fx9 (fun _ _ _ _ _ => none) (f_X0_total_b4 z ) n x0 x1 x2 x3 M) := by
  intro n
  induction n with
  | zero => intro x0 x1 x2 x3 M; exact j_none
  | succ n ih => intro x0 x1 x2 x3 M; exact t_X0_total_b4 C  ih x0 x1 x2 x3 M
def f_X0_total (z : Sh9) (a0 : Nat) (a1 : Int32) (M : Mem9) : Re9 :=
  (fx9 (fun _ _ _ _ _ => none) (f_X0_total_b4 z ) FU9 a0 a1 (0 : Int32) (0 : Int32) M)
set_option maxRecDepth 20000 in
set_option maxHeartbeats 4000000 in
theorem t_X0_total {z : Sh9} {N : Nv9} {X : Cx9} {out : Out9 × Mem9} (C : OK9 z N X out 4 (co9 out.1) cX0_total RX0 1 1 []) (a0 : Nat) (a1 : Int32) (M : Mem9) : J9 z N X out 4 0 [(0, .ref a0), (1, .int a1)] [] M (0, 0) (f_X0_total z a0 a1 M) := by
  refine j_iconst (pc := 0) C dX0_total_0 (v := 0) rfl ?_
  refine j_istore_n (pc := 1) C dX0_total_1 (Nat.le_of_ble_eq_true rfl) (ls' := [(2, .int (0 : Int32)), (0, .ref a0), (1, .int a1)]) rfl ?_
  refine j_iconst (pc := 2) C dX0_total_2 (v := 0) rfl ?_
  refine j_istore_n (pc := 3) C dX0_total_3 (Nat.le_of_ble_eq_true rfl) (ls' := [(3, .int (0 : Int32)), (2, .int (0 : Int32)), (0, .ref a0), (1, .int a1)]) rfl ?_
  refine j_loc [2, 3, 1, 0] rfl ?_
  exact t_X0_total_l4 C  FU9 a0 a1 (0 : Int32) (0 : Int32) M
theorem sp_X0_total {l : Launch} {z : Sh9} {N : Nv9} {a0 : Nat} {a1 : Int32} {M : Mem9} {o : Out9 × Mem9} (hl : l.stackTraces = false) (h : f_X0_total z a0 a1 M = some o) : Sp9 l z N yX0_total (Cond.code yX0_total cX0_total 4 (some .int)) 1 [.ref a0, .int a1] M (co9 o.1) o :=
  sp9_of (rk := 1) (own := RX0) (by decide +kernel) rfl (Or.inr (Or.inl ⟨rfl, rfl⟩)) hl (Nat.le_of_ble_eq_true rfl) (fun X C => t_X0_total C a0 a1 M) h
def f_X0_addLane (z : Sh9) (a0 : Nat) (M : Mem9) : Re9 :=
  ((gf9 z M a0 0 2).bind fun v1 => (if v1 < (3 : Int32) then ((rf9 z a0 0 1).bind fun v2 => ((gf9 z M a0 0 2).bind fun v3 => ((la9 z 14 v2 v3).bind fun v4 => (bv9 (iv9 z v4 1 (f_X1_clear z v4  M)) fun M5 => ((gf9 z M5 a0 0 2).bind fun v6 => ((pf9 z M5 a0 0 2 (v6 + (1 : Int32))).bind fun M7 => (rz9 (1 : Int32) M7))))))) else (rz9 (0 : Int32) M)))
set_option maxRecDepth 20000 in
set_option maxHeartbeats 4000000 in
theorem t_X0_addLane {z : Sh9} {N : Nv9} {X : Cx9} {out : Out9 × Mem9} (C : OK9 z N X out 1 (co9 out.1) cX0_addLane RX0 1 2 []) (a0 : Nat) (M : Mem9) : J9 z N X out 1 0 [(0, .ref a0)] [] M (0, 0) (f_X0_addLane z a0 M) := by
  refine j_aload_n (pc := 0) C dX0_addLane_0 rfl ?_
  refine j_getI (pc := 1) C dX0_addLane_1 fl_X0_25 fi_X0_2 (fun v1 => ?_)
  refine j_iconst (pc := 4) C dX0_addLane_4 (v := 3) rfl ?_
  refine j_icmp_lt (pc := 5) C dX0_addLane_5 (tgt := 10) (by decide) (fun hc8 => ?_) (fun hc8 => ?_)
  · refine j_aload_n (pc := 10) C dX0_addLane_10 rfl ?_
    refine j_getR (pc := 11) C dX0_addLane_11 fl_X0_11 fr_X0_0 (fun v2 => ?_)
    refine j_aload_n (pc := 14) C dX0_addLane_14 rfl ?_
    refine j_getI (pc := 15) C dX0_addLane_15 fl_X0_25 fi_X0_2 (fun v3 => ?_)
    refine j_aaload (t := 14) (pc := 18) C dX0_addLane_18 (by decide) (fun v4 => ?_)
    refine j_callVv (pc := 19) C rfl dX0_addLane_19 lv_X0_42 rfl (Nat.le_of_ble_eq_true rfl) (Nat.le_of_ble_eq_true rfl) (by decide) (Or.inl rfl) ⟨Nat.le_refl _, Nat.le_refl _⟩ (fun l hl o ho => sp_X1_clear hl ho) (fun M5 => ?_)
    refine j_aload_n (pc := 22) C dX0_addLane_22 rfl ?_
    refine j_dup (pc := 23) C dX0_addLane_23 rfl ?_
    refine j_getI (pc := 24) C dX0_addLane_24 fl_X0_25 fi_X0_2 (fun v6 => ?_)
    refine j_iconst (pc := 27) C dX0_addLane_27 (v := 1) rfl ?_
    refine j_iadd (pc := 28) C dX0_addLane_28 ?_
    refine j_putI (pc := 29) C dX0_addLane_29 fl_X0_25 fi_X0_2 rfl rfl (fun M7 => ?_)
    refine j_iconst (pc := 32) C dX0_addLane_32 (v := 1) rfl ?_
    exact j_zreturn (pc := 33) C rfl dX0_addLane_33 ⟨Nat.zero_le _, Nat.zero_le _⟩
  · refine j_iconst (pc := 8) C dX0_addLane_8 (v := 0) rfl ?_
    exact j_zreturn (pc := 9) C rfl dX0_addLane_9 ⟨Nat.zero_le _, Nat.zero_le _⟩
theorem sp_X0_addLane {l : Launch} {z : Sh9} {N : Nv9} {a0 : Nat} {M : Mem9} {o : Out9 × Mem9} (hl : l.stackTraces = false) (h : f_X0_addLane z a0 M = some o) : Sp9 l z N yX0_addLane (Cond.code yX0_addLane cX0_addLane 1 (some .boolean)) 1 [.ref a0] M (co9 o.1) o :=
  sp9_of (rk := 2) (own := RX0) (by decide +kernel) rfl (Or.inr (Or.inr (Or.inl ⟨rfl, rfl⟩))) hl (Nat.le_of_ble_eq_true rfl) (fun X C => t_X0_addLane C a0 M) h
def f_X0_copyFrom_b32 (z : Sh9) (r32 : Nat → Nat → Int32 → Mem9 → Re9) (x0 : Nat) (x1 : Nat) (x2 : Int32) (M : Mem9) : Re9 :=
  (if (3 : Int32) ≤ x2 then (rv9 M) else ((rf9 z x0 0 1).bind fun v8 => ((la9 z 14 v8 x2).bind fun v9 => ((rf9 z x1 0 1).bind fun v10 => ((la9 z 14 v10 x2).bind fun v11 => (bv9 (iv9 z v9 1 (f_X1_copyFrom z v9 v11 M)) fun M12 => (r32 x0 x1 (x2 + (1 : Int32)) M12)))))))
set_option maxRecDepth 20000 in
set_option maxHeartbeats 4000000 in
theorem t_X0_copyFrom_b32 {z : Sh9} {N : Nv9} {X : Cx9} {out : Out9 × Mem9} (C : OK9 z N X out 3 (co9 out.1) cX0_copyFrom RX0 2 0 []) {r32 : Nat → Nat → Int32 → Mem9 → Re9} (h32 : ∀ (x0 : Nat) (x1 : Nat) (x2 : Int32) (M : Mem9), J9 z N X out 3 32 [(0, .ref x0), (1, .ref x1), (2, .int x2)] [] M (0, 0) (r32 x0 x1 x2 M)) (x0 : Nat) (x1 : Nat) (x2 : Int32) (M : Mem9) : J9 z N X out 3 32 [(0, .ref x0), (1, .ref x1), (2, .int x2)] [] M (0, 0) (f_X0_copyFrom_b32 z r32 x0 x1 x2 M) := by
  refine j_iload_n (pc := 32) C dX0_copyFrom_32 rfl ?_
  refine j_iconst (pc := 33) C dX0_copyFrom_33 (v := 3) rfl ?_
  refine j_icmp_ge (pc := 34) C dX0_copyFrom_34 (tgt := 58) (by decide) (fun hc13 => ?_) (fun hc13 => ?_)
  · exact j_return (pc := 58) C rfl dX0_copyFrom_58 ⟨Nat.zero_le _, Nat.zero_le _⟩
  · refine j_aload_n (pc := 37) C dX0_copyFrom_37 rfl ?_
    refine j_getR (pc := 38) C dX0_copyFrom_38 fl_X0_11 fr_X0_0 (fun v8 => ?_)
    refine j_iload_n (pc := 41) C dX0_copyFrom_41 rfl ?_
    refine j_aaload (t := 14) (pc := 42) C dX0_copyFrom_42 (by decide) (fun v9 => ?_)
    refine j_aload_n (pc := 43) C dX0_copyFrom_43 rfl ?_
    refine j_getR (pc := 44) C dX0_copyFrom_44 fl_X0_11 fr_X0_0 (fun v10 => ?_)
    refine j_iload_n (pc := 47) C dX0_copyFrom_47 rfl ?_
    refine j_aaload (t := 14) (pc := 48) C dX0_copyFrom_48 (by decide) (fun v11 => ?_)
    refine j_callVv (pc := 49) C rfl dX0_copyFrom_49 lv_X0_38 rfl (Nat.le_of_ble_eq_true rfl) (Nat.le_of_ble_eq_true rfl) (by decide) (Or.inl rfl) ⟨Nat.le_refl _, Nat.le_refl _⟩ (fun l hl o ho => sp_X1_copyFrom hl ho) (fun M12 => ?_)
    refine j_iinc (pc := 52) C dX0_copyFrom_52 rfl (v := (x2 + (1 : Int32))) rfl (Nat.le_of_ble_eq_true rfl) (ls' := [(2, .int (x2 + (1 : Int32))), (0, .ref x0), (1, .ref x1)]) rfl ?_
    refine j_goto (pc := 55) C dX0_copyFrom_55 (tgt := 32) (by decide) ?_
    refine j_loc [1, 2, 0] rfl ?_
    exact h32 x0 x1 (x2 + (1 : Int32)) M12
theorem t_X0_copyFrom_l32 {z : Sh9} {N : Nv9} {X : Cx9} {out : Out9 × Mem9} (C : OK9 z N X out 3 (co9 out.1) cX0_copyFrom RX0 2 0 [])  : ∀ (n : Nat) (x0 : Nat) (x1 : Nat) (x2 : Int32) (M : Mem9), J9 z N X out 3 32 [(0, .ref x0), (1, .ref x1), (2, .int x2)] [] M (0, 0) (fx9 (fun _ _ _ _ => none) (f_X0_copyFrom_b32 z ) n x0 x1 x2 M) := by
  intro n
  induction n with
  | zero => intro x0 x1 x2 M; exact j_none
  | succ n ih => intro x0 x1 x2 M; exact t_X0_copyFrom_b32 C  ih x0 x1 x2 M
def f_X0_copyFrom (z : Sh9) (a0 : Nat) (a1 : Nat) (M : Mem9) : Re9 :=
  ((gf9 z M a1 0 2).bind fun v1 => ((pf9 z M a0 0 2 v1).bind fun M2 => ((gf9 z M2 a1 0 3).bind fun v3 => ((pf9 z M2 a0 0 3 v3).bind fun M4 => ((rf9 z a1 0 2).bind fun v5 => ((rf9 z a0 0 2).bind fun v6 => ((ac9 z M4 v5 (0 : Int32) v6 (0 : Int32) (3 : Int32)).bind fun M7 => (fx9 (fun _ _ _ _ => none) (f_X0_copyFrom_b32 z ) FU9 a0 a1 (0 : Int32) M7))))))))
set_option maxRecDepth 20000 in
set_option maxHeartbeats 4000000 in
theorem t_X0_copyFrom {z : Sh9} {N : Nv9} {X : Cx9} {out : Out9 × Mem9} (C : OK9 z N X out 3 (co9 out.1) cX0_copyFrom RX0 2 0 []) (a0 : Nat) (a1 : Nat) (M : Mem9) : J9 z N X out 3 0 [(0, .ref a0), (1, .ref a1)] [] M (0, 0) (f_X0_copyFrom z a0 a1 M) := by
  refine j_aload_n (pc := 0) C dX0_copyFrom_0 rfl ?_
  refine j_aload_n (pc := 1) C dX0_copyFrom_1 rfl ?_
  refine j_getI (pc := 2) C dX0_copyFrom_2 fl_X0_25 fi_X0_2 (fun v1 => ?_)
  refine j_putI (pc := 5) C dX0_copyFrom_5 fl_X0_25 fi_X0_2 rfl rfl (fun M2 => ?_)
  refine j_aload_n (pc := 8) C dX0_copyFrom_8 rfl ?_
  refine j_aload_n (pc := 9) C dX0_copyFrom_9 rfl ?_
  refine j_getI (pc := 10) C dX0_copyFrom_10 fl_X0_29 fi_X0_3 (fun v3 => ?_)
  refine j_putI (pc := 13) C dX0_copyFrom_13 fl_X0_29 fi_X0_3 rfl rfl (fun M4 => ?_)
  refine j_aload_n (pc := 16) C dX0_copyFrom_16 rfl ?_
  refine j_getR (pc := 17) C dX0_copyFrom_17 fl_X0_17 fr_X0_1 (fun v5 => ?_)
  refine j_iconst (pc := 20) C dX0_copyFrom_20 (v := 0) rfl ?_
  refine j_aload_n (pc := 21) C dX0_copyFrom_21 rfl ?_
  refine j_getR (pc := 22) C dX0_copyFrom_22 fl_X0_17 fr_X0_1 (fun v6 => ?_)
  refine j_iconst (pc := 25) C dX0_copyFrom_25 (v := 0) rfl ?_
  refine j_iconst (pc := 26) C dX0_copyFrom_26 (v := 3) rfl ?_
  refine j_copy (pc := 27) C dX0_copyFrom_27 w9_544 w9_546 w9_545 w9_40 (by decide) (Nat.le_of_ble_eq_true rfl) (fun M7 => ?_)
  refine j_iconst (pc := 30) C dX0_copyFrom_30 (v := 0) rfl ?_
  refine j_istore_n (pc := 31) C dX0_copyFrom_31 (Nat.le_of_ble_eq_true rfl) (ls' := [(2, .int (0 : Int32)), (0, .ref a0), (1, .ref a1)]) rfl ?_
  refine j_loc [1, 2, 0] rfl ?_
  exact t_X0_copyFrom_l32 C  FU9 a0 a1 (0 : Int32) M7
theorem sp_X0_copyFrom {l : Launch} {z : Sh9} {N : Nv9} {a0 : Nat} {a1 : Nat} {M : Mem9} {o : Out9 × Mem9} (hl : l.stackTraces = false) (h : f_X0_copyFrom z a0 a1 M = some o) : Sp9 l z N yX0_copyFrom (Cond.code yX0_copyFrom cX0_copyFrom 3 none) 2 [.ref a0, .ref a1] M (co9 o.1) o :=
  sp9_of (rk := 0) (own := RX0) (by decide +kernel) rfl (Or.inl ⟨rfl, rfl⟩) hl (Nat.le_of_ble_eq_true rfl) (fun X C => t_X0_copyFrom C a0 a1 M) h
def f_X0_hasLane (z : Sh9) (a0 : Nat) (a1 : Int32) (M : Mem9) : Re9 :=
  (if a1 < 0 then (rz9 (0 : Int32) M) else ((gf9 z M a0 0 2).bind fun v1 => (if v1 ≤ a1 then (rz9 (0 : Int32) M) else (if (3 : Int32) ≤ a1 then (rz9 (0 : Int32) M) else (rz9 (1 : Int32) M)))))
set_option maxRecDepth 20000 in
set_option maxHeartbeats 4000000 in
theorem t_X0_hasLane {z : Sh9} {N : Nv9} {X : Cx9} {out : Out9 × Mem9} (C : OK9 z N X out 2 (co9 out.1) cX0_hasLane RX0 0 2 []) (a0 : Nat) (a1 : Int32) (M : Mem9) : J9 z N X out 2 0 [(0, .ref a0), (1, .int a1)] [] M (0, 0) (f_X0_hasLane z a0 a1 M) := by
  refine j_iload_n (pc := 0) C dX0_hasLane_0 rfl ?_
  refine j_if_lt (pc := 1) C dX0_hasLane_1 (tgt := 21) (by decide) (fun hc4 => ?_) (fun hc4 => ?_)
  · refine j_iconst (pc := 21) C dX0_hasLane_21 (v := 0) rfl ?_
    exact j_zreturn (pc := 22) C rfl dX0_hasLane_22 ⟨Nat.zero_le _, Nat.zero_le _⟩
  · refine j_iload_n (pc := 4) C dX0_hasLane_4 rfl ?_
    refine j_aload_n (pc := 5) C dX0_hasLane_5 rfl ?_
    refine j_getI (pc := 6) C dX0_hasLane_6 fl_X0_25 fi_X0_2 (fun v1 => ?_)
    refine j_icmp_ge (pc := 9) C dX0_hasLane_9 (tgt := 21) (by decide) (fun hc3 => ?_) (fun hc3 => ?_)
    · refine j_iconst (pc := 21) C dX0_hasLane_21 (v := 0) rfl ?_
      exact j_zreturn (pc := 22) C rfl dX0_hasLane_22 ⟨Nat.zero_le _, Nat.zero_le _⟩
    · refine j_iload_n (pc := 12) C dX0_hasLane_12 rfl ?_
      refine j_iconst (pc := 13) C dX0_hasLane_13 (v := 3) rfl ?_
      refine j_icmp_ge (pc := 14) C dX0_hasLane_14 (tgt := 21) (by decide) (fun hc2 => ?_) (fun hc2 => ?_)
      · refine j_iconst (pc := 21) C dX0_hasLane_21 (v := 0) rfl ?_
        exact j_zreturn (pc := 22) C rfl dX0_hasLane_22 ⟨Nat.zero_le _, Nat.zero_le _⟩
      · refine j_iconst (pc := 17) C dX0_hasLane_17 (v := 1) rfl ?_
        refine j_goto (pc := 18) C dX0_hasLane_18 (tgt := 22) (by decide) ?_
        exact j_zreturn (pc := 22) C rfl dX0_hasLane_22 ⟨Nat.zero_le _, Nat.zero_le _⟩
theorem sp_X0_hasLane {l : Launch} {z : Sh9} {N : Nv9} {a0 : Nat} {a1 : Int32} {M : Mem9} {o : Out9 × Mem9} (hl : l.stackTraces = false) (h : f_X0_hasLane z a0 a1 M = some o) : Sp9 l z N yX0_hasLane (Cond.code yX0_hasLane cX0_hasLane 2 (some .boolean)) 0 [.ref a0, .int a1] M (co9 o.1) o :=
  sp9_of (rk := 2) (own := RX0) (by decide +kernel) rfl (Or.inr (Or.inr (Or.inl ⟨rfl, rfl⟩))) hl (Nat.le_of_ble_eq_true rfl) (fun X C => t_X0_hasLane C a0 a1 M) h
def f_X0_addVehicle (z : Sh9) (a0 : Nat) (a1 : Int32) (a2 : Int32) (a3 : Int32) (a4 : Int32) (M : Mem9) : Re9 :=
  (bi9 (iv9 z a0 0 (f_X0_hasLane z a0 a1 M)) fun v2 M1 => (if v2 = 0 then (rz9 (0 : Int32) M1) else (if a2 < (2 : Int32) then (rz9 (0 : Int32) M1) else (if a2 ≤ (12 : Int32) then ((rf9 z a0 0 1).bind fun v3 => ((la9 z 14 v3 a1).bind fun v4 => (bi9 (iv9 z v4 1 (f_X1_addVehicle z v4 a2 a3 a4 M1)) fun v6 M5 => (rz9 v6 M5)))) else (rz9 (0 : Int32) M1)))))
set_option maxRecDepth 20000 in
set_option maxHeartbeats 4000000 in
theorem t_X0_addVehicle {z : Sh9} {N : Nv9} {X : Cx9} {out : Out9 × Mem9} (C : OK9 z N X out 5 (co9 out.1) cX0_addVehicle RX0 2 2 []) (a0 : Nat) (a1 : Int32) (a2 : Int32) (a3 : Int32) (a4 : Int32) (M : Mem9) : J9 z N X out 5 0 [(0, .ref a0), (1, .int a1), (2, .int a2), (3, .int a3), (4, .int a4)] [] M (0, 0) (f_X0_addVehicle z a0 a1 a2 a3 a4 M) := by
  refine j_aload_n (pc := 0) C dX0_addVehicle_0 rfl ?_
  refine j_iload_n (pc := 1) C dX0_addVehicle_1 rfl ?_
  refine j_callVi (pc := 2) C rfl dX0_addVehicle_2 lv_X0_43 rfl (Nat.le_of_ble_eq_true rfl) (Nat.le_of_ble_eq_true rfl) (by decide) (Or.inl rfl) ⟨Nat.le_refl _, Nat.le_refl _⟩ (fun l hl o ho => sp_X0_hasLane hl ho) (fun v2 M1 => ?_)
  refine j_if_eq (pc := 5) C dX0_addVehicle_5 (tgt := 19) (by decide) (fun hc9 => ?_) (fun hc9 => ?_)
  · refine j_iconst (pc := 19) C dX0_addVehicle_19 (v := 0) rfl ?_
    exact j_zreturn (pc := 20) C rfl dX0_addVehicle_20 ⟨Nat.zero_le _, Nat.zero_le _⟩
  · refine j_iload_n (pc := 8) C dX0_addVehicle_8 rfl ?_
    refine j_iconst (pc := 9) C dX0_addVehicle_9 (v := 2) rfl ?_
    refine j_icmp_lt (pc := 10) C dX0_addVehicle_10 (tgt := 19) (by decide) (fun hc8 => ?_) (fun hc8 => ?_)
    · refine j_iconst (pc := 19) C dX0_addVehicle_19 (v := 0) rfl ?_
      exact j_zreturn (pc := 20) C rfl dX0_addVehicle_20 ⟨Nat.zero_le _, Nat.zero_le _⟩
    · refine j_iload_n (pc := 13) C dX0_addVehicle_13 rfl ?_
      refine j_bipush (pc := 14) C dX0_addVehicle_14 (v := 12) rfl ?_
      refine j_icmp_le (pc := 16) C dX0_addVehicle_16 (tgt := 21) (by decide) (fun hc7 => ?_) (fun hc7 => ?_)
      · refine j_aload_n (pc := 21) C dX0_addVehicle_21 rfl ?_
        refine j_getR (pc := 22) C dX0_addVehicle_22 fl_X0_11 fr_X0_0 (fun v3 => ?_)
        refine j_iload_n (pc := 25) C dX0_addVehicle_25 rfl ?_
        refine j_aaload (t := 14) (pc := 26) C dX0_addVehicle_26 (by decide) (fun v4 => ?_)
        refine j_iload_n (pc := 27) C dX0_addVehicle_27 rfl ?_
        refine j_iload_n (pc := 28) C dX0_addVehicle_28 rfl ?_
        refine j_iload (pc := 29) C dX0_addVehicle_29 rfl ?_
        refine j_callVi (pc := 31) C rfl dX0_addVehicle_31 lv_X0_47 rfl (Nat.le_of_ble_eq_true rfl) (Nat.le_of_ble_eq_true rfl) (by decide) (Or.inl rfl) ⟨Nat.le_refl _, Nat.le_refl _⟩ (fun l hl o ho => sp_X1_addVehicle hl ho) (fun v6 M5 => ?_)
        exact j_zreturn (pc := 34) C rfl dX0_addVehicle_34 ⟨Nat.zero_le _, Nat.zero_le _⟩
      · refine j_iconst (pc := 19) C dX0_addVehicle_19 (v := 0) rfl ?_
        exact j_zreturn (pc := 20) C rfl dX0_addVehicle_20 ⟨Nat.zero_le _, Nat.zero_le _⟩
theorem sp_X0_addVehicle {l : Launch} {z : Sh9} {N : Nv9} {a0 : Nat} {a1 : Int32} {a2 : Int32} {a3 : Int32} {a4 : Int32} {M : Mem9} {o : Out9 × Mem9} (hl : l.stackTraces = false) (h : f_X0_addVehicle z a0 a1 a2 a3 a4 M = some o) : Sp9 l z N yX0_addVehicle (Cond.code yX0_addVehicle cX0_addVehicle 5 (some .boolean)) 2 [.ref a0, .int a1, .int a2, .int a3, .int a4] M (co9 o.1) o :=
  sp9_of (rk := 2) (own := RX0) (by decide +kernel) rfl (Or.inr (Or.inr (Or.inl ⟨rfl, rfl⟩))) hl (Nat.le_of_ble_eq_true rfl) (fun X C => t_X0_addVehicle C a0 a1 a2 a3 a4 M) h
def f_X0_armsUp_b4 (z : Sh9) (r4 : Nat → Int32 → Int32 → Mem9 → Re9) (x0 : Nat) (x1 : Int32) (x2 : Int32) (M : Mem9) : Re9 :=
  ((gf9 z M x0 0 2).bind fun v1 => (if v1 ≤ x2 then (ri9 x1 M) else ((rf9 z x0 0 1).bind fun v2 => ((la9 z 14 v2 x2).bind fun v3 => ((gf9 z M v3 1 6).bind fun v4 => (if v4 = (4 : Int32) then (r4 x0 (x1 + (1 : Int32)) (x2 + (1 : Int32)) M) else (r4 x0 x1 (x2 + (1 : Int32)) M)))))))
set_option maxRecDepth 20000 in
set_option maxHeartbeats 4000000 in
theorem t_X0_armsUp_b4 {z : Sh9} {N : Nv9} {X : Cx9} {out : Out9 × Mem9} (C : OK9 z N X out 3 (co9 out.1) cX0_armsUp RX0 0 1 []) {r4 : Nat → Int32 → Int32 → Mem9 → Re9} (h4 : ∀ (x0 : Nat) (x1 : Int32) (x2 : Int32) (M : Mem9), J9 z N X out 3 4 [(0, .ref x0), (1, .int x1), (2, .int x2)] [] M (0, 0) (r4 x0 x1 x2 M)) (x0 : Nat) (x1 : Int32) (x2 : Int32) (M : Mem9) : J9 z N X out 3 4 [(0, .ref x0), (1, .int x1), (2, .int x2)] [] M (0, 0) (f_X0_armsUp_b4 z r4 x0 x1 x2 M) := by
  refine j_iload_n (pc := 4) C dX0_armsUp_4 rfl ?_
  refine j_aload_n (pc := 5) C dX0_armsUp_5 rfl ?_
  refine j_getI (pc := 6) C dX0_armsUp_6 fl_X0_25 fi_X0_2 (fun v1 => ?_)
  refine j_icmp_ge (pc := 9) C dX0_armsUp_9 (tgt := 34) (by decide) (fun hc6 => ?_) (fun hc6 => ?_)
  · refine j_iload_n (pc := 34) C dX0_armsUp_34 rfl ?_
    exact j_ireturn (pc := 35) C rfl dX0_armsUp_35 ⟨Nat.zero_le _, Nat.zero_le _⟩
  · refine j_aload_n (pc := 12) C dX0_armsUp_12 rfl ?_
    refine j_getR (pc := 13) C dX0_armsUp_13 fl_X0_11 fr_X0_0 (fun v2 => ?_)
    refine j_iload_n (pc := 16) C dX0_armsUp_16 rfl ?_
    refine j_aaload (t := 14) (pc := 17) C dX0_armsUp_17 (by decide) (fun v3 => ?_)
    refine j_getI (pc := 18) C dX0_armsUp_18 fl_X0_74 fi_X1_6 (fun v4 => ?_)
    refine j_iconst (pc := 21) C dX0_armsUp_21 (v := 4) rfl ?_
    refine j_icmp_ne (pc := 22) C dX0_armsUp_22 (tgt := 28) (by decide) (fun hc5 => ?_) (fun hc5 => ?_)
    · refine j_iinc (pc := 28) C dX0_armsUp_28 rfl (v := (x2 + (1 : Int32))) rfl (Nat.le_of_ble_eq_true rfl) (ls' := [(2, .int (x2 + (1 : Int32))), (0, .ref x0), (1, .int x1)]) rfl ?_
      refine j_goto (pc := 31) C dX0_armsUp_31 (tgt := 4) (by decide) ?_
      refine j_loc [1, 2, 0] rfl ?_
      exact h4 x0 x1 (x2 + (1 : Int32)) M
    · refine j_iinc (pc := 25) C dX0_armsUp_25 rfl (v := (x1 + (1 : Int32))) rfl (Nat.le_of_ble_eq_true rfl) (ls' := [(1, .int (x1 + (1 : Int32))), (0, .ref x0), (2, .int x2)]) rfl ?_
      refine j_iinc (pc := 28) C dX0_armsUp_28 rfl (v := (x2 + (1 : Int32))) rfl (Nat.le_of_ble_eq_true rfl) (ls' := [(2, .int (x2 + (1 : Int32))), (1, .int (x1 + (1 : Int32))), (0, .ref x0)]) rfl ?_
      refine j_goto (pc := 31) C dX0_armsUp_31 (tgt := 4) (by decide) ?_
      refine j_loc [2, 1, 0] rfl ?_
      exact h4 x0 (x1 + (1 : Int32)) (x2 + (1 : Int32)) M
theorem t_X0_armsUp_l4 {z : Sh9} {N : Nv9} {X : Cx9} {out : Out9 × Mem9} (C : OK9 z N X out 3 (co9 out.1) cX0_armsUp RX0 0 1 [])  : ∀ (n : Nat) (x0 : Nat) (x1 : Int32) (x2 : Int32) (M : Mem9), J9 z N X out 3 4 [(0, .ref x0), (1, .int x1), (2, .int x2)] [] M (0, 0) (fx9 (fun _ _ _ _ => none) (f_X0_armsUp_b4 z ) n x0 x1 x2 M) := by
  intro n
  induction n with
  | zero => intro x0 x1 x2 M; exact j_none
  | succ n ih => intro x0 x1 x2 M; exact t_X0_armsUp_b4 C  ih x0 x1 x2 M
def f_X0_armsUp (z : Sh9) (a0 : Nat) (M : Mem9) : Re9 :=
  (fx9 (fun _ _ _ _ => none) (f_X0_armsUp_b4 z ) FU9 a0 (0 : Int32) (0 : Int32) M)
set_option maxRecDepth 20000 in
set_option maxHeartbeats 4000000 in
theorem t_X0_armsUp {z : Sh9} {N : Nv9} {X : Cx9} {out : Out9 × Mem9} (C : OK9 z N X out 3 (co9 out.1) cX0_armsUp RX0 0 1 []) (a0 : Nat) (M : Mem9) : J9 z N X out 3 0 [(0, .ref a0)] [] M (0, 0) (f_X0_armsUp z a0 M) := by
  refine j_iconst (pc := 0) C dX0_armsUp_0 (v := 0) rfl ?_
  refine j_istore_n (pc := 1) C dX0_armsUp_1 (Nat.le_of_ble_eq_true rfl) (ls' := [(1, .int (0 : Int32)), (0, .ref a0)]) rfl ?_
  refine j_iconst (pc := 2) C dX0_armsUp_2 (v := 0) rfl ?_
  refine j_istore_n (pc := 3) C dX0_armsUp_3 (Nat.le_of_ble_eq_true rfl) (ls' := [(2, .int (0 : Int32)), (1, .int (0 : Int32)), (0, .ref a0)]) rfl ?_
  refine j_loc [2, 1, 0] rfl ?_
  exact t_X0_armsUp_l4 C  FU9 a0 (0 : Int32) (0 : Int32) M
theorem sp_X0_armsUp {l : Launch} {z : Sh9} {N : Nv9} {a0 : Nat} {M : Mem9} {o : Out9 × Mem9} (hl : l.stackTraces = false) (h : f_X0_armsUp z a0 M = some o) : Sp9 l z N yX0_armsUp (Cond.code yX0_armsUp cX0_armsUp 3 (some .int)) 0 [.ref a0] M (co9 o.1) o :=
  sp9_of (rk := 1) (own := RX0) (by decide +kernel) rfl (Or.inr (Or.inl ⟨rfl, rfl⟩)) hl (Nat.le_of_ble_eq_true rfl) (fun X C => t_X0_armsUp C a0 M) h
def f_X0_letTicksGo_b32 (z : Sh9) (r15 : Nat → Int32 → Int32 → Mem9 → Re9) (r32 : Nat → Int32 → Int32 → Int32 → Mem9 → Re9) (x0 : Nat) (x1 : Int32) (x2 : Int32) (x3 : Int32) (M : Mem9) : Re9 :=
  ((gf9 z M x0 0 2).bind fun v6 => (if v6 ≤ x3 then (r15 x0 x1 (x2 + (1 : Int32)) M) else ((rf9 z x0 0 1).bind fun v7 => ((la9 z 14 v7 x3).bind fun v8 => ((rf9 z x0 0 2).bind fun v9 => (bv9 (iv9 z v8 1 (f_X1_tick z v8 v9 M)) fun M10 => (r32 x0 x1 x2 (x3 + (1 : Int32)) M10)))))))
set_option maxRecDepth 20000 in
set_option maxHeartbeats 4000000 in
theorem t_X0_letTicksGo_b32 {z : Sh9} {N : Nv9} {X : Cx9} {out : Out9 × Mem9} (C : OK9 z N X out 4 (co9 out.1) cX0_letTicksGo RX0 4 2 []) {r15 : Nat → Int32 → Int32 → Mem9 → Re9} (h15 : ∀ (x0 : Nat) (x1 : Int32) (x2 : Int32) (M : Mem9), J9 z N X out 4 15 [(0, .ref x0), (1, .int x1), (2, .int x2)] [] M (0, 0) (r15 x0 x1 x2 M)) {r32 : Nat → Int32 → Int32 → Int32 → Mem9 → Re9} (h32 : ∀ (x0 : Nat) (x1 : Int32) (x2 : Int32) (x3 : Int32) (M : Mem9), J9 z N X out 4 32 [(0, .ref x0), (1, .int x1), (2, .int x2), (3, .int x3)] [] M (0, 0) (r32 x0 x1 x2 x3 M)) (x0 : Nat) (x1 : Int32) (x2 : Int32) (x3 : Int32) (M : Mem9) : J9 z N X out 4 32 [(0, .ref x0), (1, .int x1), (2, .int x2), (3, .int x3)] [] M (0, 0) (f_X0_letTicksGo_b32 z r15 r32 x0 x1 x2 x3 M) := by
  refine j_iload_n (pc := 32) C dX0_letTicksGo_32 rfl ?_
  refine j_aload_n (pc := 33) C dX0_letTicksGo_33 rfl ?_
  refine j_getI (pc := 34) C dX0_letTicksGo_34 fl_X0_25 fi_X0_2 (fun v6 => ?_)
  refine j_icmp_ge (pc := 37) C dX0_letTicksGo_37 (tgt := 59) (by decide) (fun hc11 => ?_) (fun hc11 => ?_)
  · refine j_iinc (pc := 59) C dX0_letTicksGo_59 rfl (v := (x2 + (1 : Int32))) rfl (Nat.le_of_ble_eq_true rfl) (ls' := [(2, .int (x2 + (1 : Int32))), (0, .ref x0), (1, .int x1), (3, .int x3)]) rfl ?_
    refine j_goto (pc := 62) C dX0_letTicksGo_62 (tgt := 15) (by decide) ?_
    refine j_loc [1, 2, 0] rfl ?_
    exact h15 x0 x1 (x2 + (1 : Int32)) M
  · refine j_aload_n (pc := 40) C dX0_letTicksGo_40 rfl ?_
    refine j_getR (pc := 41) C dX0_letTicksGo_41 fl_X0_11 fr_X0_0 (fun v7 => ?_)
    refine j_iload_n (pc := 44) C dX0_letTicksGo_44 rfl ?_
    refine j_aaload (t := 14) (pc := 45) C dX0_letTicksGo_45 (by decide) (fun v8 => ?_)
    refine j_aload_n (pc := 46) C dX0_letTicksGo_46 rfl ?_
    refine j_getR (pc := 47) C dX0_letTicksGo_47 fl_X0_17 fr_X0_1 (fun v9 => ?_)
    refine j_callVv (pc := 50) C rfl dX0_letTicksGo_50 lv_X0_62 rfl (Nat.le_of_ble_eq_true rfl) (Nat.le_of_ble_eq_true rfl) (by decide) (Or.inl rfl) ⟨Nat.le_refl _, Nat.le_refl _⟩ (fun l hl o ho => sp_X1_tick hl ho) (fun M10 => ?_)
    refine j_iinc (pc := 53) C dX0_letTicksGo_53 rfl (v := (x3 + (1 : Int32))) rfl (Nat.le_of_ble_eq_true rfl) (ls' := [(3, .int (x3 + (1 : Int32))), (0, .ref x0), (1, .int x1), (2, .int x2)]) rfl ?_
    refine j_goto (pc := 56) C dX0_letTicksGo_56 (tgt := 32) (by decide) ?_
    refine j_loc [1, 2, 3, 0] rfl ?_
    exact h32 x0 x1 x2 (x3 + (1 : Int32)) M10
theorem t_X0_letTicksGo_l32 {z : Sh9} {N : Nv9} {X : Cx9} {out : Out9 × Mem9} (C : OK9 z N X out 4 (co9 out.1) cX0_letTicksGo RX0 4 2 []) {r15 : Nat → Int32 → Int32 → Mem9 → Re9} (h15 : ∀ (x0 : Nat) (x1 : Int32) (x2 : Int32) (M : Mem9), J9 z N X out 4 15 [(0, .ref x0), (1, .int x1), (2, .int x2)] [] M (0, 0) (r15 x0 x1 x2 M)) : ∀ (n : Nat) (x0 : Nat) (x1 : Int32) (x2 : Int32) (x3 : Int32) (M : Mem9), J9 z N X out 4 32 [(0, .ref x0), (1, .int x1), (2, .int x2), (3, .int x3)] [] M (0, 0) (fx9 (fun _ _ _ _ _ => none) (f_X0_letTicksGo_b32 z r15) n x0 x1 x2 x3 M) := by
  intro n
  induction n with
  | zero => intro x0 x1 x2 x3 M; exact j_none
  | succ n ih => intro x0 x1 x2 x3 M; exact t_X0_letTicksGo_b32 C h15 ih x0 x1 x2 x3 M
def f_X0_letTicksGo_b15 (z : Sh9) (r15 : Nat → Int32 → Int32 → Mem9 → Re9) (x0 : Nat) (x1 : Int32) (x2 : Int32) (M : Mem9) : Re9 :=
  (if x1 ≤ x2 then (rz9 (1 : Int32) M) else ((gf9 z M x0 0 3).bind fun v3 => ((pf9 z M x0 0 3 (v3 + (1 : Int32))).bind fun M4 => (fx9 (fun _ _ _ _ _ => none) (f_X0_letTicksGo_b32 z r15) FU9 x0 x1 x2 (0 : Int32) M4))))
set_option maxRecDepth 20000 in
set_option maxHeartbeats 4000000 in
theorem t_X0_letTicksGo_b15 {z : Sh9} {N : Nv9} {X : Cx9} {out : Out9 × Mem9} (C : OK9 z N X out 4 (co9 out.1) cX0_letTicksGo RX0 4 2 []) {r15 : Nat → Int32 → Int32 → Mem9 → Re9} (h15 : ∀ (x0 : Nat) (x1 : Int32) (x2 : Int32) (M : Mem9), J9 z N X out 4 15 [(0, .ref x0), (1, .int x1), (2, .int x2)] [] M (0, 0) (r15 x0 x1 x2 M)) (x0 : Nat) (x1 : Int32) (x2 : Int32) (M : Mem9) : J9 z N X out 4 15 [(0, .ref x0), (1, .int x1), (2, .int x2)] [] M (0, 0) (f_X0_letTicksGo_b15 z r15 x0 x1 x2 M) := by
  refine j_iload_n (pc := 15) C dX0_letTicksGo_15 rfl ?_
  refine j_iload_n (pc := 16) C dX0_letTicksGo_16 rfl ?_
  refine j_icmp_ge (pc := 17) C dX0_letTicksGo_17 (tgt := 65) (by decide) (fun hc5 => ?_) (fun hc5 => ?_)
  · refine j_iconst (pc := 65) C dX0_letTicksGo_65 (v := 1) rfl ?_
    exact j_zreturn (pc := 66) C rfl dX0_letTicksGo_66 ⟨Nat.zero_le _, Nat.zero_le _⟩
  · refine j_aload_n (pc := 20) C dX0_letTicksGo_20 rfl ?_
    refine j_dup (pc := 21) C dX0_letTicksGo_21 rfl ?_
    refine j_getI (pc := 22) C dX0_letTicksGo_22 fl_X0_29 fi_X0_3 (fun v3 => ?_)
    refine j_iconst (pc := 25) C dX0_letTicksGo_25 (v := 1) rfl ?_
    refine j_iadd (pc := 26) C dX0_letTicksGo_26 ?_
    refine j_putI (pc := 27) C dX0_letTicksGo_27 fl_X0_29 fi_X0_3 rfl rfl (fun M4 => ?_)
    refine j_iconst (pc := 30) C dX0_letTicksGo_30 (v := 0) rfl ?_
    refine j_istore_n (pc := 31) C dX0_letTicksGo_31 (Nat.le_of_ble_eq_true rfl) (ls' := [(3, .int (0 : Int32)), (0, .ref x0), (1, .int x1), (2, .int x2)]) rfl ?_
    refine j_loc [1, 2, 3, 0] rfl ?_
    exact t_X0_letTicksGo_l32 C h15 FU9 x0 x1 x2 (0 : Int32) M4
theorem t_X0_letTicksGo_l15 {z : Sh9} {N : Nv9} {X : Cx9} {out : Out9 × Mem9} (C : OK9 z N X out 4 (co9 out.1) cX0_letTicksGo RX0 4 2 [])  : ∀ (n : Nat) (x0 : Nat) (x1 : Int32) (x2 : Int32) (M : Mem9), J9 z N X out 4 15 [(0, .ref x0), (1, .int x1), (2, .int x2)] [] M (0, 0) (fx9 (fun _ _ _ _ => none) (f_X0_letTicksGo_b15 z ) n x0 x1 x2 M) := by
  intro n
  induction n with
  | zero => intro x0 x1 x2 M; exact j_none
  | succ n ih => intro x0 x1 x2 M; exact t_X0_letTicksGo_b15 C  ih x0 x1 x2 M
def f_X0_letTicksGo (z : Sh9) (a0 : Nat) (a1 : Int32) (M : Mem9) : Re9 :=
  (if a1 < (1 : Int32) then (rz9 (0 : Int32) M) else (if a1 ≤ (60 : Int32) then (fx9 (fun _ _ _ _ => none) (f_X0_letTicksGo_b15 z ) FU9 a0 a1 (0 : Int32) M) else (rz9 (0 : Int32) M)))
set_option maxRecDepth 20000 in
set_option maxHeartbeats 4000000 in
theorem t_X0_letTicksGo {z : Sh9} {N : Nv9} {X : Cx9} {out : Out9 × Mem9} (C : OK9 z N X out 4 (co9 out.1) cX0_letTicksGo RX0 4 2 []) (a0 : Nat) (a1 : Int32) (M : Mem9) : J9 z N X out 4 0 [(0, .ref a0), (1, .int a1)] [] M (0, 0) (f_X0_letTicksGo z a0 a1 M) := by
  refine j_iload_n (pc := 0) C dX0_letTicksGo_0 rfl ?_
  refine j_iconst (pc := 1) C dX0_letTicksGo_1 (v := 1) rfl ?_
  refine j_icmp_lt (pc := 2) C dX0_letTicksGo_2 (tgt := 11) (by decide) (fun hc2 => ?_) (fun hc2 => ?_)
  · refine j_iconst (pc := 11) C dX0_letTicksGo_11 (v := 0) rfl ?_
    exact j_zreturn (pc := 12) C rfl dX0_letTicksGo_12 ⟨Nat.zero_le _, Nat.zero_le _⟩
  · refine j_iload_n (pc := 5) C dX0_letTicksGo_5 rfl ?_
    refine j_bipush (pc := 6) C dX0_letTicksGo_6 (v := 60) rfl ?_
    refine j_icmp_le (pc := 8) C dX0_letTicksGo_8 (tgt := 13) (by decide) (fun hc1 => ?_) (fun hc1 => ?_)
    · refine j_iconst (pc := 13) C dX0_letTicksGo_13 (v := 0) rfl ?_
      refine j_istore_n (pc := 14) C dX0_letTicksGo_14 (Nat.le_of_ble_eq_true rfl) (ls' := [(2, .int (0 : Int32)), (0, .ref a0), (1, .int a1)]) rfl ?_
      refine j_loc [1, 2, 0] rfl ?_
      exact t_X0_letTicksGo_l15 C  FU9 a0 a1 (0 : Int32) M
    · refine j_iconst (pc := 11) C dX0_letTicksGo_11 (v := 0) rfl ?_
      exact j_zreturn (pc := 12) C rfl dX0_letTicksGo_12 ⟨Nat.zero_le _, Nat.zero_le _⟩
theorem sp_X0_letTicksGo {l : Launch} {z : Sh9} {N : Nv9} {a0 : Nat} {a1 : Int32} {M : Mem9} {o : Out9 × Mem9} (hl : l.stackTraces = false) (h : f_X0_letTicksGo z a0 a1 M = some o) : Sp9 l z N yX0_letTicksGo (Cond.code yX0_letTicksGo cX0_letTicksGo 4 (some .boolean)) 4 [.ref a0, .int a1] M (co9 o.1) o :=
  sp9_of (rk := 2) (own := RX0) (by decide +kernel) rfl (Or.inr (Or.inr (Or.inl ⟨rfl, rfl⟩))) hl (Nat.le_of_ble_eq_true rfl) (fun X C => t_X0_letTicksGo C a0 a1 M) h
def f_X0_changeLoop (z : Sh9) (a0 : Nat) (a1 : Int32) (a2 : Int32) (M : Mem9) : Re9 :=
  (bi9 (iv9 z a0 0 (f_X0_hasLane z a0 a1 M)) fun v2 M1 => (if v2 = 0 then (rz9 (0 : Int32) M1) else ((rf9 z a0 0 1).bind fun v3 => ((la9 z 14 v3 a1).bind fun v4 => ((pz9 z M1 v4 1 10 a2).bind fun M5 => (rz9 (1 : Int32) M5))))))
set_option maxRecDepth 20000 in
set_option maxHeartbeats 4000000 in
theorem t_X0_changeLoop {z : Sh9} {N : Nv9} {X : Cx9} {out : Out9 × Mem9} (C : OK9 z N X out 3 (co9 out.1) cX0_changeLoop RX0 1 2 []) (a0 : Nat) (a1 : Int32) (a2 : Int32) (M : Mem9) : J9 z N X out 3 0 [(0, .ref a0), (1, .int a1), (2, .int a2)] [] M (0, 0) (f_X0_changeLoop z a0 a1 a2 M) := by
  refine j_aload_n (pc := 0) C dX0_changeLoop_0 rfl ?_
  refine j_iload_n (pc := 1) C dX0_changeLoop_1 rfl ?_
  refine j_callVi (pc := 2) C rfl dX0_changeLoop_2 lv_X0_43 rfl (Nat.le_of_ble_eq_true rfl) (Nat.le_of_ble_eq_true rfl) (by decide) (Or.inl rfl) ⟨Nat.le_refl _, Nat.le_refl _⟩ (fun l hl o ho => sp_X0_hasLane hl ho) (fun v2 M1 => ?_)
  refine j_if_ne (pc := 5) C dX0_changeLoop_5 (tgt := 10) (by decide) (fun hc6 => ?_) (fun hc6 => ?_)
  · refine j_aload_n (pc := 10) C dX0_changeLoop_10 rfl ?_
    refine j_getR (pc := 11) C dX0_changeLoop_11 fl_X0_11 fr_X0_0 (fun v3 => ?_)
    refine j_iload_n (pc := 14) C dX0_changeLoop_14 rfl ?_
    refine j_aaload (t := 14) (pc := 15) C dX0_changeLoop_15 (by decide) (fun v4 => ?_)
    refine j_iload_n (pc := 16) C dX0_changeLoop_16 rfl ?_
    refine j_putZ (pc := 17) C dX0_changeLoop_17 fl_X0_51 fi_X1_10 rfl rfl (fun M5 => ?_)
    refine j_iconst (pc := 20) C dX0_changeLoop_20 (v := 1) rfl ?_
    exact j_zreturn (pc := 21) C rfl dX0_changeLoop_21 ⟨Nat.zero_le _, Nat.zero_le _⟩
  · refine j_iconst (pc := 8) C dX0_changeLoop_8 (v := 0) rfl ?_
    exact j_zreturn (pc := 9) C rfl dX0_changeLoop_9 ⟨Nat.zero_le _, Nat.zero_le _⟩
theorem sp_X0_changeLoop {l : Launch} {z : Sh9} {N : Nv9} {a0 : Nat} {a1 : Int32} {a2 : Int32} {M : Mem9} {o : Out9 × Mem9} (hl : l.stackTraces = false) (h : f_X0_changeLoop z a0 a1 a2 M = some o) : Sp9 l z N yX0_changeLoop (Cond.code yX0_changeLoop cX0_changeLoop 3 (some .boolean)) 1 [.ref a0, .int a1, .int a2] M (co9 o.1) o :=
  sp9_of (rk := 2) (own := RX0) (by decide +kernel) rfl (Or.inr (Or.inr (Or.inl ⟨rfl, rfl⟩))) hl (Nat.le_of_ble_eq_true rfl) (fun X C => t_X0_changeLoop C a0 a1 a2 M) h
def f_X0_changeSetting (z : Sh9) (a0 : Nat) (a1 : Int32) (a2 : Int32) (M : Mem9) : Re9 :=
  (bn9 (f_X2_isSetting z a1 a2 M) fun v2 M1 => (if v2 = 0 then (rz9 (0 : Int32) M1) else ((rf9 z a0 0 2).bind fun v3 => ((st9 z M1 v3 a1 a2).bind fun M4 => (rz9 (1 : Int32) M4)))))
set_option maxRecDepth 20000 in
set_option maxHeartbeats 4000000 in
theorem t_X0_changeSetting {z : Sh9} {N : Nv9} {X : Cx9} {out : Out9 × Mem9} (C : OK9 z N X out 3 (co9 out.1) cX0_changeSetting RX0 2 2 []) (a0 : Nat) (a1 : Int32) (a2 : Int32) (M : Mem9) : J9 z N X out 3 0 [(0, .ref a0), (1, .int a1), (2, .int a2)] [] M (0, 0) (f_X0_changeSetting z a0 a1 a2 M) := by
  refine j_iload_n (pc := 0) C dX0_changeSetting_0 rfl ?_
  refine j_iload_n (pc := 1) C dX0_changeSetting_1 rfl ?_
  refine j_callNi (pc := 2) C rfl dX0_changeSetting_2 ln_X0_66 rfl (Nat.le_of_ble_eq_true rfl) (Nat.le_of_ble_eq_true rfl) (by decide) (Or.inl rfl) ⟨Nat.le_refl _, Nat.le_refl _⟩ (fun l hl o ho => sp_X2_isSetting hl ho) (fun v2 M1 => ?_)
  refine j_if_ne (pc := 5) C dX0_changeSetting_5 (tgt := 10) (by decide) (fun hc5 => ?_) (fun hc5 => ?_)
  · refine j_aload_n (pc := 10) C dX0_changeSetting_10 rfl ?_
    refine j_getR (pc := 11) C dX0_changeSetting_11 fl_X0_17 fr_X0_1 (fun v3 => ?_)
    refine j_iload_n (pc := 14) C dX0_changeSetting_14 rfl ?_
    refine j_iload_n (pc := 15) C dX0_changeSetting_15 rfl ?_
    refine j_iastore (pc := 16) C dX0_changeSetting_16 (fun M4 => ?_)
    refine j_iconst (pc := 17) C dX0_changeSetting_17 (v := 1) rfl ?_
    exact j_zreturn (pc := 18) C rfl dX0_changeSetting_18 ⟨Nat.zero_le _, Nat.zero_le _⟩
  · refine j_iconst (pc := 8) C dX0_changeSetting_8 (v := 0) rfl ?_
    exact j_zreturn (pc := 9) C rfl dX0_changeSetting_9 ⟨Nat.zero_le _, Nat.zero_le _⟩
theorem sp_X0_changeSetting {l : Launch} {z : Sh9} {N : Nv9} {a0 : Nat} {a1 : Int32} {a2 : Int32} {M : Mem9} {o : Out9 × Mem9} (hl : l.stackTraces = false) (h : f_X0_changeSetting z a0 a1 a2 M = some o) : Sp9 l z N yX0_changeSetting (Cond.code yX0_changeSetting cX0_changeSetting 3 (some .boolean)) 2 [.ref a0, .int a1, .int a2] M (co9 o.1) o :=
  sp9_of (rk := 2) (own := RX0) (by decide +kernel) rfl (Or.inr (Or.inr (Or.inl ⟨rfl, rfl⟩))) hl (Nat.le_of_ble_eq_true rfl) (fun X C => t_X0_changeSetting C a0 a1 a2 M) h
def f_X0_clear (z : Sh9) (a0 : Nat) (M : Mem9) : Re9 :=
  ((pf9 z M a0 0 2 (0 : Int32)).bind fun M1 => ((pf9 z M1 a0 0 3 (0 : Int32)).bind fun M2 => ((rf9 z a0 0 2).bind fun v3 => ((st9 z M2 v3 (0 : Int32) (3 : Int32)).bind fun M4 => ((rf9 z a0 0 2).bind fun v5 => ((st9 z M4 v5 (1 : Int32) (12 : Int32)).bind fun M6 => ((rf9 z a0 0 2).bind fun v7 => ((st9 z M6 v7 (2 : Int32) (2 : Int32)).bind fun M8 => (rv9 M8)))))))))
set_option maxRecDepth 20000 in
set_option maxHeartbeats 4000000 in
theorem t_X0_clear {z : Sh9} {N : Nv9} {X : Cx9} {out : Out9 × Mem9} (C : OK9 z N X out 1 (co9 out.1) cX0_clear RX0 0 0 []) (a0 : Nat) (M : Mem9) : J9 z N X out 1 0 [(0, .ref a0)] [] M (0, 0) (f_X0_clear z a0 M) := by
  refine j_aload_n (pc := 0) C dX0_clear_0 rfl ?_
  refine j_iconst (pc := 1) C dX0_clear_1 (v := 0) rfl ?_
  refine j_putI (pc := 2) C dX0_clear_2 fl_X0_25 fi_X0_2 rfl rfl (fun M1 => ?_)
  refine j_aload_n (pc := 5) C dX0_clear_5 rfl ?_
  refine j_iconst (pc := 6) C dX0_clear_6 (v := 0) rfl ?_
  refine j_putI (pc := 7) C dX0_clear_7 fl_X0_29 fi_X0_3 rfl rfl (fun M2 => ?_)
  refine j_aload_n (pc := 10) C dX0_clear_10 rfl ?_
  refine j_getR (pc := 11) C dX0_clear_11 fl_X0_17 fr_X0_1 (fun v3 => ?_)
  refine j_iconst (pc := 14) C dX0_clear_14 (v := 0) rfl ?_
  refine j_iconst (pc := 15) C dX0_clear_15 (v := 3) rfl ?_
  refine j_iastore (pc := 16) C dX0_clear_16 (fun M4 => ?_)
  refine j_aload_n (pc := 17) C dX0_clear_17 rfl ?_
  refine j_getR (pc := 18) C dX0_clear_18 fl_X0_17 fr_X0_1 (fun v5 => ?_)
  refine j_iconst (pc := 21) C dX0_clear_21 (v := 1) rfl ?_
  refine j_bipush (pc := 22) C dX0_clear_22 (v := 12) rfl ?_
  refine j_iastore (pc := 24) C dX0_clear_24 (fun M6 => ?_)
  refine j_aload_n (pc := 25) C dX0_clear_25 rfl ?_
  refine j_getR (pc := 26) C dX0_clear_26 fl_X0_17 fr_X0_1 (fun v7 => ?_)
  refine j_iconst (pc := 29) C dX0_clear_29 (v := 2) rfl ?_
  refine j_iconst (pc := 30) C dX0_clear_30 (v := 2) rfl ?_
  refine j_iastore (pc := 31) C dX0_clear_31 (fun M8 => ?_)
  exact j_return (pc := 32) C rfl dX0_clear_32 ⟨Nat.zero_le _, Nat.zero_le _⟩
theorem sp_X0_clear {l : Launch} {z : Sh9} {N : Nv9} {a0 : Nat} {M : Mem9} {o : Out9 × Mem9} (hl : l.stackTraces = false) (h : f_X0_clear z a0 M = some o) : Sp9 l z N yX0_clear (Cond.code yX0_clear cX0_clear 1 none) 0 [.ref a0] M (co9 o.1) o :=
  sp9_of (rk := 0) (own := RX0) (by decide +kernel) rfl (Or.inl ⟨rfl, rfl⟩) hl (Nat.le_of_ble_eq_true rfl) (fun X C => t_X0_clear C a0 M) h
def f_X0_mendArm (z : Sh9) (a0 : Nat) (a1 : Int32) (M : Mem9) : Re9 :=
  (bi9 (iv9 z a0 0 (f_X0_hasLane z a0 a1 M)) fun v2 M1 => (if v2 = 0 then (rz9 (0 : Int32) M1) else ((rf9 z a0 0 1).bind fun v3 => ((la9 z 14 v3 a1).bind fun v4 => (bi9 (iv9 z v4 1 (f_X1_canBeMended z v4  M1)) fun v6 M5 => (if v6 = 0 then (rz9 (0 : Int32) M5) else ((rf9 z a0 0 1).bind fun v7 => ((la9 z 14 v7 a1).bind fun v8 => ((pz9 z M5 v8 1 11 (0 : Int32)).bind fun M9 => (rz9 (1 : Int32) M9))))))))))
set_option maxRecDepth 20000 in
set_option maxHeartbeats 4000000 in
theorem t_X0_mendArm {z : Sh9} {N : Nv9} {X : Cx9} {out : Out9 × Mem9} (C : OK9 z N X out 2 (co9 out.1) cX0_mendArm RX0 3 2 []) (a0 : Nat) (a1 : Int32) (M : Mem9) : J9 z N X out 2 0 [(0, .ref a0), (1, .int a1)] [] M (0, 0) (f_X0_mendArm z a0 a1 M) := by
  refine j_aload_n (pc := 0) C dX0_mendArm_0 rfl ?_
  refine j_iload_n (pc := 1) C dX0_mendArm_1 rfl ?_
  refine j_callVi (pc := 2) C rfl dX0_mendArm_2 lv_X0_43 rfl (Nat.le_of_ble_eq_true rfl) (Nat.le_of_ble_eq_true rfl) (by decide) (Or.inl rfl) ⟨Nat.le_refl _, Nat.le_refl _⟩ (fun l hl o ho => sp_X0_hasLane hl ho) (fun v2 M1 => ?_)
  refine j_if_eq (pc := 5) C dX0_mendArm_5 (tgt := 20) (by decide) (fun hc11 => ?_) (fun hc11 => ?_)
  · refine j_iconst (pc := 20) C dX0_mendArm_20 (v := 0) rfl ?_
    exact j_zreturn (pc := 21) C rfl dX0_mendArm_21 ⟨Nat.zero_le _, Nat.zero_le _⟩
  · refine j_aload_n (pc := 8) C dX0_mendArm_8 rfl ?_
    refine j_getR (pc := 9) C dX0_mendArm_9 fl_X0_11 fr_X0_0 (fun v3 => ?_)
    refine j_iload_n (pc := 12) C dX0_mendArm_12 rfl ?_
    refine j_aaload (t := 14) (pc := 13) C dX0_mendArm_13 (by decide) (fun v4 => ?_)
    refine j_callVi (pc := 14) C rfl dX0_mendArm_14 lv_X0_55 rfl (Nat.le_of_ble_eq_true rfl) (Nat.le_of_ble_eq_true rfl) (by decide) (Or.inl rfl) ⟨Nat.le_refl _, Nat.le_refl _⟩ (fun l hl o ho => sp_X1_canBeMended hl ho) (fun v6 M5 => ?_)
    refine j_if_ne (pc := 17) C dX0_mendArm_17 (tgt := 22) (by decide) (fun hc10 => ?_) (fun hc10 => ?_)
    · refine j_aload_n (pc := 22) C dX0_mendArm_22 rfl ?_
      refine j_getR (pc := 23) C dX0_mendArm_23 fl_X0_11 fr_X0_0 (fun v7 => ?_)
      refine j_iload_n (pc := 26) C dX0_mendArm_26 rfl ?_
      refine j_aaload (t := 14) (pc := 27) C dX0_mendArm_27 (by decide) (fun v8 => ?_)
      refine j_iconst (pc := 28) C dX0_mendArm_28 (v := 0) rfl ?_
      refine j_putZ (pc := 29) C dX0_mendArm_29 fl_X0_59 fi_X1_11 rfl rfl (fun M9 => ?_)
      refine j_iconst (pc := 32) C dX0_mendArm_32 (v := 1) rfl ?_
      exact j_zreturn (pc := 33) C rfl dX0_mendArm_33 ⟨Nat.zero_le _, Nat.zero_le _⟩
    · refine j_iconst (pc := 20) C dX0_mendArm_20 (v := 0) rfl ?_
      exact j_zreturn (pc := 21) C rfl dX0_mendArm_21 ⟨Nat.zero_le _, Nat.zero_le _⟩
theorem sp_X0_mendArm {l : Launch} {z : Sh9} {N : Nv9} {a0 : Nat} {a1 : Int32} {M : Mem9} {o : Out9 × Mem9} (hl : l.stackTraces = false) (h : f_X0_mendArm z a0 a1 M = some o) : Sp9 l z N yX0_mendArm (Cond.code yX0_mendArm cX0_mendArm 2 (some .boolean)) 3 [.ref a0, .int a1] M (co9 o.1) o :=
  sp9_of (rk := 2) (own := RX0) (by decide +kernel) rfl (Or.inr (Or.inr (Or.inl ⟨rfl, rfl⟩))) hl (Nat.le_of_ble_eq_true rfl) (fun X C => t_X0_mendArm C a0 a1 M) h
