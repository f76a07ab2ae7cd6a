def f_X3_in (z : Sh9) (a0 : Int64) (a1 : Int64) (a2 : Int64) (M : Mem9) : Re9 :=
  (if (lg_cmp a0 a1) < 0 then (rz9 (0 : Int32) M) else (if 0 < (lg_cmp a0 a2) then (rz9 (0 : Int32) M) else (rz9 (1 : Int32) M)))
set_option maxRecDepth 20000 in
set_option maxHeartbeats 4000000 in
theorem t_X3_in {z : Sh9} {N : Nv9} {X : Cx9} {out : Out9 × Mem9} (C : OK9 z N X out 6 (co9 out.1) cX3_in RX3 0 2 []) (a0 : Int64) (a1 : Int64) (a2 : Int64) (M : Mem9) : J9 z N X out 6 0 [(0, .long a0), (2, .long a1), (4, .long a2)] [] M (0, 0) (f_X3_in z a0 a1 a2 M) := by
  refine j_lload_n (pc := 0) C dX3_in_0 rfl ?_
  refine j_lload_n (pc := 1) C dX3_in_1 rfl ?_
  refine j_lcmp (pc := 2) C dX3_in_2 ?_
  refine j_if_lt (pc := 3) C dX3_in_3 (tgt := 17) (by decide) (fun hc2 => ?_) (fun hc2 => ?_)
  · refine j_iconst (pc := 17) C dX3_in_17 (v := 0) rfl ?_
    exact j_zreturn (pc := 18) C rfl dX3_in_18 ⟨Nat.zero_le _, Nat.zero_le _⟩
  · refine j_lload_n (pc := 6) C dX3_in_6 rfl ?_
    refine j_lload (pc := 7) C dX3_in_7 rfl ?_
    refine j_lcmp (pc := 9) C dX3_in_9 ?_
    refine j_if_gt (pc := 10) C dX3_in_10 (tgt := 17) (by decide) (fun hc1 => ?_) (fun hc1 => ?_)
    · refine j_iconst (pc := 17) C dX3_in_17 (v := 0) rfl ?_
      exact j_zreturn (pc := 18) C rfl dX3_in_18 ⟨Nat.zero_le _, Nat.zero_le _⟩
    · refine j_iconst (pc := 13) C dX3_in_13 (v := 1) rfl ?_
      refine j_goto (pc := 14) C dX3_in_14 (tgt := 18) (by decide) ?_
      exact j_zreturn (pc := 18) C rfl dX3_in_18 ⟨Nat.zero_le _, Nat.zero_le _⟩
theorem sp_X3_in {l : Launch} {z : Sh9} {N : Nv9} {a0 : Int64} {a1 : Int64} {a2 : Int64} {M : Mem9} {o : Out9 × Mem9} (hl : l.stackTraces = false) (h : f_X3_in z a0 a1 a2 M = some o) : Sp9 l z N yX3_in (Cond.code yX3_in cX3_in 6 (some .boolean)) 0 [.long a0, .long a1, .long a2] M (co9 o.1) o :=
  sp9_of (rk := 2) (own := RX3) (by decide +kernel) rfl (Or.inr (Or.inr (Or.inl ⟨rfl, rfl⟩))) hl (Nat.le_of_ble_eq_true rfl) (fun X C => t_X3_in C a0 a1 a2 M) h
def f_X3_refused (z : Sh9) (a0 : Nat) (a1 : Int32) (M : Mem9) : Re9 :=
  ((pf9 z M a0 3 0 a1).bind fun M1 => (if a1 ≤ 0 then (rz9 (0 : Int32) M1) else (rz9 (1 : Int32) M1)))
set_option maxRecDepth 20000 in
set_option maxHeartbeats 4000000 in
theorem t_X3_refused {z : Sh9} {N : Nv9} {X : Cx9} {out : Out9 × Mem9} (C : OK9 z N X out 2 (co9 out.1) cX3_refused RX3 0 2 []) (a0 : Nat) (a1 : Int32) (M : Mem9) : J9 z N X out 2 0 [(0, .ref a0), (1, .int a1)] [] M (0, 0) (f_X3_refused z a0 a1 M) := by
  refine j_aload_n (pc := 0) C dX3_refused_0 rfl ?_
  refine j_iload_n (pc := 1) C dX3_refused_1 rfl ?_
  refine j_putI (pc := 2) C dX3_refused_2 fl_X3_36 fi_X3_0 rfl rfl (fun M1 => ?_)
  refine j_iload_n (pc := 5) C dX3_refused_5 rfl ?_
  refine j_if_le (pc := 6) C dX3_refused_6 (tgt := 13) (by decide) (fun hc2 => ?_) (fun hc2 => ?_)
  · refine j_iconst (pc := 13) C dX3_refused_13 (v := 0) rfl ?_
    exact j_zreturn (pc := 14) C rfl dX3_refused_14 ⟨Nat.zero_le _, Nat.zero_le _⟩
  · refine j_iconst (pc := 9) C dX3_refused_9 (v := 1) rfl ?_
    refine j_goto (pc := 10) C dX3_refused_10 (tgt := 14) (by decide) ?_
    exact j_zreturn (pc := 14) C rfl dX3_refused_14 ⟨Nat.zero_le _, Nat.zero_le _⟩
theorem sp_X3_refused {l : Launch} {z : Sh9} {N : Nv9} {a0 : Nat} {a1 : Int32} {M : Mem9} {o : Out9 × Mem9} (hl : l.stackTraces = false) (h : f_X3_refused z a0 a1 M = some o) : Sp9 l z N yX3_refused (Cond.code yX3_refused cX3_refused 2 (some .boolean)) 0 [.ref a0, .int a1] M (co9 o.1) o :=
  sp9_of (rk := 2) (own := RX3) (by decide +kernel) rfl (Or.inr (Or.inr (Or.inl ⟨rfl, rfl⟩))) hl (Nat.le_of_ble_eq_true rfl) (fun X C => t_X3_refused C a0 a1 M) h
def f_X3_of (z : Sh9) (a0 : Nat) (a1 : Int32) (a2 : Int32) (M : Mem9) : Re9 :=
  ((ld9 z M 10 a0 (((10 : Int32) + ((37 : Int32) * a1)) + a2)).bind fun v1 => (ri9 v1 M))
set_option maxRecDepth 20000 in
set_option maxHeartbeats 4000000 in
theorem t_X3_of {z : Sh9} {N : Nv9} {X : Cx9} {out : Out9 × Mem9} (C : OK9 z N X out 3 (co9 out.1) cX3_of RX3 0 1 []) (a0 : Nat) (a1 : Int32) (a2 : Int32) (M : Mem9) : J9 z N X out 3 0 [(0, .ref a0), (1, .int a1), (2, .int a2)] [] M (0, 0) (f_X3_of z a0 a1 a2 M) := by
  refine j_aload_n (pc := 0) C dX3_of_0 rfl ?_
  refine j_bipush (pc := 1) C dX3_of_1 (v := 10) rfl ?_
  refine j_bipush (pc := 3) C dX3_of_3 (v := 37) rfl ?_
  refine j_iload_n (pc := 5) C dX3_of_5 rfl ?_
  refine j_imul (pc := 6) C dX3_of_6 ?_
  refine j_iadd (pc := 7) C dX3_of_7 ?_
  refine j_iload_n (pc := 8) C dX3_of_8 rfl ?_
  refine j_iadd (pc := 9) C dX3_of_9 ?_
  refine j_iaload (pc := 10) C dX3_of_10 (fun v1 => ?_)
  exact j_ireturn (pc := 11) C rfl dX3_of_11 ⟨Nat.zero_le _, Nat.zero_le _⟩
theorem sp_X3_of {l : Launch} {z : Sh9} {N : Nv9} {a0 : Nat} {a1 : Int32} {a2 : Int32} {M : Mem9} {o : Out9 × Mem9} (hl : l.stackTraces = false) (h : f_X3_of z a0 a1 a2 M = some o) : Sp9 l z N yX3_of (Cond.code yX3_of cX3_of 3 (some .int)) 0 [.ref a0, .int a1, .int a2] M (co9 o.1) o :=
  sp9_of (rk := 1) (own := RX3) (by decide +kernel) rfl (Or.inr (Or.inl ⟨rfl, rfl⟩)) hl (Nat.le_of_ble_eq_true rfl) (fun X C => t_X3_of C a0 a1 a2 M) h
def f_X3_sum_b4 (z : Sh9) (r4 : Nat → Int32 → Int32 → Int32 → Mem9 → Re9) (x0 : Nat) (x1 : Int32) (x2 : Int32) (x3 : Int32) (M : Mem9) : Re9 :=
  ((ld9 z M 10 x0 (0 : Int32)).bind fun v1 => (if v1 ≤ x3 then (ri9 x2 M) else (bi9 (f_X3_of z x0 x3 x1 M) fun v3 M2 => (nm9 (x2 + v3) fun (y4 : Int32) => (r4 x0 x1 y4 (x3 + (1 : Int32)) M2)))))
set_option maxRecDepth 20000 in
set_option maxHeartbeats 4000000 in
theorem t_X3_sum_b4 {z : Sh9} {N : Nv9} {X : Cx9} {out : Out9 × Mem9} (C : OK9 z N X out 4 (co9 out.1) cX3_sum RX3 1 1 []) {r4 : Nat → Int32 → Int32 → Int32 → Mem9 → Re9} (h4 : ∀ (x0 : Nat) (x1 : Int32) (x2 : Int32) (x3 : Int32) (M : Mem9), J9 z N X out 4 4 [(0, .ref x0), (1, .int x1), (2, .int x2), (3, .int x3)] [] M (0, 0) (r4 x0 x1 x2 x3 M)) (x0 : Nat) (x1 : Int32) (x2 : Int32) (x3 : Int32) (M : Mem9) : J9 z N X out 4 4 [(0, .ref x0), (1, .int x1), (2, .int x2), (3, .int x3)] [] M (0, 0) (f_X3_sum_b4 z r4 x0 x1 x2 x3 M) := by
  refine j_iload_n (pc := 4) C dX3_sum_4 rfl ?_
  refine j_aload_n (pc := 5) C dX3_sum_5 rfl ?_
  refine j_iconst (pc := 6) C dX3_sum_6 (v := 0) rfl ?_
  refine j_iaload (pc := 7) C dX3_sum_7 (fun v1 => ?_)
  refine j_icmp_ge (pc := 8) C dX3_sum_8 (tgt := 26) (by decide) (fun hc5 => ?_) (fun hc5 => ?_)
  · refine j_iload_n (pc := 26) C dX3_sum_26 rfl ?_
    exact j_ireturn (pc := 27) C rfl dX3_sum_27 ⟨Nat.zero_le _, Nat.zero_le _⟩
  · refine j_iload_n (pc := 11) C dX3_sum_11 rfl ?_
    refine j_aload_n (pc := 12) C dX3_sum_12 rfl ?_
    refine j_iload_n (pc := 13) C dX3_sum_13 rfl ?_
    refine j_iload_n (pc := 14) C dX3_sum_14 rfl ?_
    refine j_callSi (pc := 15) C rfl dX3_sum_15 ls_X3_48 rfl (Nat.le_of_ble_eq_true rfl) (Nat.le_of_ble_eq_true rfl) (by decide) (Or.inl rfl) ⟨Nat.le_refl _, Nat.le_refl _⟩ (fun l hl o ho => sp_X3_of hl ho) (fun v3 M2 => ?_)
    refine j_iadd (pc := 18) C dX3_sum_18 ?_
    refine j_nm (st' := fun x9 : Int32 => .int x9 :: []) rfl (fun y4 => ?_)
    refine j_istore_n (pc := 19) C dX3_sum_19 (Nat.le_of_ble_eq_true rfl) (ls' := [(2, .int y4), (0, .ref x0), (1, .int x1), (3, .int x3)]) rfl ?_
    refine j_iinc (pc := 20) C dX3_sum_20 rfl (v := (x3 + (1 : Int32))) rfl (Nat.le_of_ble_eq_true rfl) (ls' := [(3, .int (x3 + (1 : Int32))), (2, .int y4), (0, .ref x0), (1, .int x1)]) rfl ?_
    refine j_goto (pc := 23) C dX3_sum_23 (tgt := 4) (by decide) ?_
    refine j_loc [2, 3, 1, 0] rfl ?_
    exact h4 x0 x1 y4 (x3 + (1 : Int32)) M2
theorem t_X3_sum_l4 {z : Sh9} {N : Nv9} {X : Cx9} {out : Out9 × Mem9} (C : OK9 z N X out 4 (co9 out.1) cX3_sum RX3 1 1 [])  : ∀ (n : Nat) (x0 : Nat) (x1 : Int32) (x2 : Int32) (x3 : Int32) (M : Mem9), J9 z N X out 4 4 [(0, .ref x0), (1, .int x1), (2, .int x2), (3, .int x3)] [] M (0, 0) (fx9 (fun _ _ _ _ _ => none) (f_X3_sum_b4 z ) n x0 x1 x2 x3 M) := by
  intro n
  induction n with
  | zero => intro x0 x1 x2 x3 M; exact j_none
  | succ n ih => intro x0 x1 x2 x3 M; exact t_X3_sum_b4 C  ih x0 x1 x2 x3 M
def f_X3_sum (z : Sh9) (a0 : Nat) (a1 : Int32) (M : Mem9) : Re9 :=
  (fx9 (fun _ _ _ _ _ => none) (f_X3_sum_b4 z ) FU9 a0 a1 (0 : Int32) (0 : Int32) M)
set_option maxRecDepth 20000 in
set_option maxHeartbeats 4000000 in
theorem t_X3_sum {z : Sh9} {N : Nv9} {X : Cx9} {out : Out9 × Mem9} (C : OK9 z N X out 4 (co9 out.1) cX3_sum RX3 1 1 []) (a0 : Nat) (a1 : Int32) (M : Mem9) : J9 z N X out 4 0 [(0, .ref a0), (1, .int a1)] [] M (0, 0) (f_X3_sum z a0 a1 M) := by
  refine j_iconst (pc := 0) C dX3_sum_0 (v := 0) rfl ?_
  refine j_istore_n (pc := 1) C dX3_sum_1 (Nat.le_of_ble_eq_true rfl) (ls' := [(2, .int (0 : Int32)), (0, .ref a0), (1, .int a1)]) rfl ?_
  refine j_iconst (pc := 2) C dX3_sum_2 (v := 0) rfl ?_
  refine j_istore_n (pc := 3) C dX3_sum_3 (Nat.le_of_ble_eq_true rfl) (ls' := [(3, .int (0 : Int32)), (2, .int (0 : Int32)), (0, .ref a0), (1, .int a1)]) rfl ?_
  refine j_loc [2, 3, 1, 0] rfl ?_
  exact t_X3_sum_l4 C  FU9 a0 a1 (0 : Int32) (0 : Int32) M
theorem sp_X3_sum {l : Launch} {z : Sh9} {N : Nv9} {a0 : Nat} {a1 : Int32} {M : Mem9} {o : Out9 × Mem9} (hl : l.stackTraces = false) (h : f_X3_sum z a0 a1 M = some o) : Sp9 l z N yX3_sum (Cond.code yX3_sum cX3_sum 4 (some .int)) 1 [.ref a0, .int a1] M (co9 o.1) o :=
  sp9_of (rk := 1) (own := RX3) (by decide +kernel) rfl (Or.inr (Or.inl ⟨rfl, rfl⟩)) hl (Nat.le_of_ble_eq_true rfl) (fun X C => t_X3_sum C a0 a1 M) h
def f_X3_about_b122 (z : Sh9)  (x0 : Nat) (x1 : Int32) (M : Mem9) : Re9 :=
  ((rf9 z x0 3 2).bind fun v30 => ((ld9 z M 10 v30 (x1 - (1 : Int32))).bind fun v31 => (ri9 v31 M)))
set_option maxRecDepth 20000 in
set_option maxHeartbeats 4000000 in
theorem t_X3_about_b122 {z : Sh9} {N : Nv9} {X : Cx9} {out : Out9 × Mem9} (C : OK9 z N X out 2 (co9 out.1) cX3_about RX3 2 1 [])  (x0 : Nat) (x1 : Int32) (M : Mem9) : J9 z N X out 2 122 [(0, .ref x0), (1, .int x1)] [] M (0, 0) (f_X3_about_b122 z  x0 x1 M) := by
  refine j_aload_n (pc := 122) C dX3_about_122 rfl ?_
  refine j_getR (pc := 123) C dX3_about_123 fl_X3_13 fr_X3_3 (fun v30 => ?_)
  refine j_iload_n (pc := 126) C dX3_about_126 rfl ?_
  refine j_iconst (pc := 127) C dX3_about_127 (v := 1) rfl ?_
  refine j_isub (pc := 128) C dX3_about_128 ?_
  refine j_iaload (pc := 129) C dX3_about_129 (fun v31 => ?_)
  exact j_ireturn (pc := 130) C rfl dX3_about_130 ⟨Nat.zero_le _, Nat.zero_le _⟩
def f_X3_about_b80 (z : Sh9)  (x0 : Nat) (x1 : Int32) (M : Mem9) : Re9 :=
  ((rf9 z x0 3 2).bind fun v28 => ((ld9 z M 10 v28 x1).bind fun v29 => (ri9 v29 M)))
set_option maxRecDepth 20000 in
set_option maxHeartbeats 4000000 in
theorem t_X3_about_b80 {z : Sh9} {N : Nv9} {X : Cx9} {out : Out9 × Mem9} (C : OK9 z N X out 2 (co9 out.1) cX3_about RX3 2 1 [])  (x0 : Nat) (x1 : Int32) (M : Mem9) : J9 z N X out 2 80 [(0, .ref x0), (1, .int x1)] [] M (0, 0) (f_X3_about_b80 z  x0 x1 M) := by
  refine j_aload_n (pc := 80) C dX3_about_80 rfl ?_
  refine j_getR (pc := 81) C dX3_about_81 fl_X3_13 fr_X3_3 (fun v28 => ?_)
  refine j_iload_n (pc := 84) C dX3_about_84 rfl ?_
  refine j_iaload (pc := 85) C dX3_about_85 (fun v29 => ?_)
  exact j_ireturn (pc := 86) C rfl dX3_about_86 ⟨Nat.zero_le _, Nat.zero_le _⟩
def f_X3_about_b18 (z : Sh9)  (x0 : Nat) (x1 : Int32) (s0 : Int32) (s1 : Nat) (M : Mem9) : Re9 :=
  (bi9 (iv9 z s1 3 (f_X3_refused z s1 s0 M)) fun v5 M4 => (if v5 = 0 then (if x1 = (0 : Int32) then (f_X3_about_b80 z  x0 x1 M4) else (if x1 = (1 : Int32) then (f_X3_about_b80 z  x0 x1 M4) else (if x1 = (2 : Int32) then ((rf9 z x0 3 2).bind fun v8 => (bi9 (f_X3_sum z v8 (0 : Int32) M4) fun v10 M9 => (ri9 v10 M9))) else (if x1 = (7 : Int32) then ((rf9 z x0 3 2).bind fun v12 => (bi9 (f_X3_sum z v12 (5 : Int32) M4) fun v14 M13 => (ri9 v14 M13))) else (if x1 = (8 : Int32) then ((rf9 z x0 3 2).bind fun v16 => (bi9 (f_X3_sum z v16 (4 : Int32) M4) fun v18 M17 => (ri9 v18 M17))) else (if x1 = (9 : Int32) then ((rf9 z x0 3 2).bind fun v20 => ((ld9 z M4 10 v20 (6 : Int32)).bind fun v21 => (ri9 v21 M4))) else (f_X3_about_b122 z  x0 x1 M4))))))) else (ri9 (0 : Int32) M4)))
set_option maxRecDepth 20000 in
set_option maxHeartbeats 4000000 in
theorem t_X3_about_b18 {z : Sh9} {N : Nv9} {X : Cx9} {out : Out9 × Mem9} (C : OK9 z N X out 2 (co9 out.1) cX3_about RX3 2 1 [])  (x0 : Nat) (x1 : Int32) (s0 : Int32) (s1 : Nat) (M : Mem9) : J9 z N X out 2 18 [(0, .ref x0), (1, .int x1)] [.int s0, .ref s1] M (0, 0) (f_X3_about_b18 z  x0 x1 s0 s1 M) := by
  refine j_callVi (pc := 18) C rfl dX3_about_18 lv_X3_130 rfl (Nat.le_of_ble_eq_true rfl) (Nat.le_of_ble_eq_true rfl) (by decide) (Or.inl rfl) ⟨Nat.le_refl _, Nat.le_refl _⟩ (fun l hl o ho => sp_X3_refused hl ho) (fun v5 M4 => ?_)
  refine j_if_eq (pc := 21) C dX3_about_21 (tgt := 26) (by decide) (fun hc27 => ?_) (fun hc27 => ?_)
  · refine j_iload_n (pc := 26) C dX3_about_26 rfl ?_
    refine j_ite (fun hc6 => ?_) (fun hc6 => ?_)
    · refine j_tsIn (pc := 27) C (0) dX3_about_27 (by rw [hc6]; rfl) (by decide) (off := 53) rfl (tgt := 80) (by decide) ?_
      exact t_X3_about_b80 C  x0 x1 M4
    · refine j_ite (fun hc7 => ?_) (fun hc7 => ?_)
      · refine j_tsIn (pc := 27) C (1) dX3_about_27 (by rw [hc7]; rfl) (by decide) (off := 53) rfl (tgt := 80) (by decide) ?_
        exact t_X3_about_b80 C  x0 x1 M4
      · refine j_ite (fun hc11 => ?_) (fun hc11 => ?_)
        · refine j_tsIn (pc := 27) C (2) dX3_about_27 (by rw [hc11]; rfl) (by decide) (off := 60) rfl (tgt := 87) (by decide) ?_
          refine j_aload_n (pc := 87) C dX3_about_87 rfl ?_
          refine j_getR (pc := 88) C dX3_about_88 fl_X3_13 fr_X3_3 (fun v8 => ?_)
          refine j_iconst (pc := 91) C dX3_about_91 (v := 0) rfl ?_
          refine j_callSi (pc := 92) C rfl dX3_about_92 ls_X3_118 rfl (Nat.le_of_ble_eq_true rfl) (Nat.le_of_ble_eq_true rfl) (by decide) (Or.inl rfl) ⟨Nat.le_refl _, Nat.le_refl _⟩ (fun l hl o ho => sp_X3_sum hl ho) (fun v10 M9 => ?_)
          exact j_ireturn (pc := 95) C rfl dX3_about_95 ⟨Nat.zero_le _, Nat.zero_le _⟩
        · refine j_ite (fun hc15 => ?_) (fun hc15 => ?_)
          · refine j_tsIn (pc := 27) C (7) dX3_about_27 (by rw [hc15]; rfl) (by decide) (off := 69) rfl (tgt := 96) (by decide) ?_
            refine j_aload_n (pc := 96) C dX3_about_96 rfl ?_
            refine j_getR (pc := 97) C dX3_about_97 fl_X3_13 fr_X3_3 (fun v12 => ?_)
            refine j_iconst (pc := 100) C dX3_about_100 (v := 5) rfl ?_
            refine j_callSi (pc := 101) C rfl dX3_about_101 ls_X3_118 rfl (Nat.le_of_ble_eq_true rfl) (Nat.le_of_ble_eq_true rfl) (by decide) (Or.inl rfl) ⟨Nat.le_refl _, Nat.le_refl _⟩ (fun l hl o ho => sp_X3_sum hl ho) (fun v14 M13 => ?_)
            exact j_ireturn (pc := 104) C rfl dX3_about_104 ⟨Nat.zero_le _, Nat.zero_le _⟩
          · refine j_ite (fun hc19 => ?_) (fun hc19 => ?_)
            · refine j_tsIn (pc := 27) C (8) dX3_about_27 (by rw [hc19]; rfl) (by decide) (off := 78) rfl (tgt := 105) (by decide) ?_
              refine j_aload_n (pc := 105) C dX3_about_105 rfl ?_
              refine j_getR (pc := 106) C dX3_about_106 fl_X3_13 fr_X3_3 (fun v16 => ?_)
              refine j_iconst (pc := 109) C dX3_about_109 (v := 4) rfl ?_
              refine j_callSi (pc := 110) C rfl dX3_about_110 ls_X3_118 rfl (Nat.le_of_ble_eq_true rfl) (Nat.le_of_ble_eq_true rfl) (by decide) (Or.inl rfl) ⟨Nat.le_refl _, Nat.le_refl _⟩ (fun l hl o ho => sp_X3_sum hl ho) (fun v18 M17 => ?_)
              exact j_ireturn (pc := 113) C rfl dX3_about_113 ⟨Nat.zero_le _, Nat.zero_le _⟩
            · refine j_ite (fun hc22 => ?_) (fun hc22 => ?_)
              · refine j_tsIn (pc := 27) C (9) dX3_about_27 (by rw [hc22]; rfl) (by decide) (off := 87) rfl (tgt := 114) (by decide) ?_
                refine j_aload_n (pc := 114) C dX3_about_114 rfl ?_
                refine j_getR (pc := 115) C dX3_about_115 fl_X3_13 fr_X3_3 (fun v20 => ?_)
                refine j_bipush (pc := 118) C dX3_about_118 (v := 6) rfl ?_
                refine j_iaload (pc := 120) C dX3_about_120 (fun v21 => ?_)
                exact j_ireturn (pc := 121) C rfl dX3_about_121 ⟨Nat.zero_le _, Nat.zero_le _⟩
              · by_cases hc23 : x1 = (3 : Int32)
                · refine j_tsIn (pc := 27) C (3) dX3_about_27 (by rw [hc23]; rfl) (by decide) (off := 95) rfl (tgt := 122) (by decide) ?_
                  exact t_X3_about_b122 C  x0 x1 M4
                by_cases hc24 : x1 = (4 : Int32)
                · refine j_tsIn (pc := 27) C (4) dX3_about_27 (by rw [hc24]; rfl) (by decide) (off := 95) rfl (tgt := 122) (by decide) ?_
                  exact t_X3_about_b122 C  x0 x1 M4
                by_cases hc25 : x1 = (5 : Int32)
                · refine j_tsIn (pc := 27) C (5) dX3_about_27 (by rw [hc25]; rfl) (by decide) (off := 95) rfl (tgt := 122) (by decide) ?_
                  exact t_X3_about_b122 C  x0 x1 M4
                by_cases hc26 : x1 = (6 : Int32)
                · refine j_tsIn (pc := 27) C (6) dX3_about_27 (by rw [hc26]; rfl) (by decide) (off := 95) rfl (tgt := 122) (by decide) ?_
                  exact t_X3_about_b122 C  x0 x1 M4
                refine j_tsOut (pc := 27) C dX3_about_27 (by have qhc6 := ne9 (k := 0) hc6 rfl; have qhc7 := ne9 (k := 1) hc7 rfl; have qhc11 := ne9 (k := 2) hc11 rfl; have qhc15 := ne9 (k := 7) hc15 rfl; have qhc19 := ne9 (k := 8) hc19 rfl; have qhc22 := ne9 (k := 9) hc22 rfl; have qhc23 := ne9 (k := 3) hc23 rfl; have qhc24 := ne9 (k := 4) hc24 rfl; have qhc25 := ne9 (k := 5) hc25 rfl; have qhc26 := ne9 (k := 6) hc26 rfl; omega) (tgt := 122) (by decide) ?_
                exact t_X3_about_b122 C  x0 x1 M4
  · refine j_iconst (pc := 24) C dX3_about_24 (v := 0) rfl ?_
    exact j_ireturn (pc := 25) C rfl dX3_about_25 ⟨Nat.zero_le _, Nat.zero_le _⟩
def f_X3_about (z : Sh9) (a0 : Nat) (a1 : Int32) (M : Mem9) : Re9 :=
  (bi9 (f_X3_in z (Int32.toInt64 a1) (0 : Int64) (9 : Int64) M) fun v2 M1 => (if v2 = 0 then (f_X3_about_b18 z  a0 a1 (1 : Int32) a0 M1) else (f_X3_about_b18 z  a0 a1 (0 : Int32) a0 M1)))
set_option maxRecDepth 20000 in
set_option maxHeartbeats 4000000 in
theorem t_X3_about {z : Sh9} {N : Nv9} {X : Cx9} {out : Out9 × Mem9} (C : OK9 z N X out 2 (co9 out.1) cX3_about RX3 2 1 []) (a0 : Nat) (a1 : Int32) (M : Mem9) : J9 z N X out 2 0 [(0, .ref a0), (1, .int a1)] [] M (0, 0) (f_X3_about z a0 a1 M) := by
  refine j_aload_n (pc := 0) C dX3_about_0 rfl ?_
  refine j_iload_n (pc := 1) C dX3_about_1 rfl ?_
  refine j_i2l (pc := 2) C dX3_about_2 ?_
  refine j_lconst (pc := 3) C dX3_about_3 (v := 0) rfl ?_
  refine j_ldc2 (pc := 4) C dX3_about_4 (v := 9) w9_825 ?_
  refine j_callSi (pc := 7) C rfl dX3_about_7 ls_X3_40 rfl (Nat.le_of_ble_eq_true rfl) (Nat.le_of_ble_eq_true rfl) (by decide) (Or.inl rfl) ⟨Nat.le_refl _, Nat.le_refl _⟩ (fun l hl o ho => sp_X3_in hl ho) (fun v2 M1 => ?_)
  refine j_if_eq (pc := 10) C dX3_about_10 (tgt := 17) (by decide) (fun hc3 => ?_) (fun hc3 => ?_)
  · refine j_iconst (pc := 17) C dX3_about_17 (v := 1) rfl ?_
    exact t_X3_about_b18 C  a0 a1 (1 : Int32) a0 M1
  · refine j_iconst (pc := 13) C dX3_about_13 (v := 0) rfl ?_
    refine j_goto (pc := 14) C dX3_about_14 (tgt := 18) (by decide) ?_
    exact t_X3_about_b18 C  a0 a1 (0 : Int32) a0 M1
theorem sp_X3_about {l : Launch} {z : Sh9} {N : Nv9} {a0 : Nat} {a1 : Int32} {M : Mem9} {o : Out9 × Mem9} (hl : l.stackTraces = false) (h : f_X3_about z a0 a1 M = some o) : Sp9 l z N yX3_about (Cond.code yX3_about cX3_about 2 (some .int)) 2 [.ref a0, .int a1] M (co9 o.1) o :=
  sp9_of (rk := 1) (own := RX3) (by decide +kernel) rfl (Or.inr (Or.inl ⟨rfl, rfl⟩)) hl (Nat.le_of_ble_eq_true rfl) (fun X C => t_X3_about C a0 a1 M) h
def f_X3_append_b31 (z : Sh9)  (x0 : Nat) (x1 : Int32) (s0 : Int32) (s1 : Nat) (M : Mem9) : Re9 :=
  (bi9 (iv9 z s1 3 (f_X3_refused z s1 s0 M)) fun v7 M6 => (if v7 = 0 then ((rf9 z x0 3 1).bind fun v8 => ((gf9 z M6 x0 3 2).bind fun v9 => ((st9 z M6 v8 v9 x1).bind fun M10 => ((gf9 z M10 x0 3 2).bind fun v11 => ((pf9 z M10 x0 3 2 (v11 + (1 : Int32))).bind fun M12 => ((gf9 z M12 x0 3 2).bind fun v13 => (ri9 v13 M12))))))) else (ri9 (0 : Int32) M6)))
set_option maxRecDepth 20000 in
set_option maxHeartbeats 4000000 in
theorem t_X3_append_b31 {z : Sh9} {N : Nv9} {X : Cx9} {out : Out9 × Mem9} (C : OK9 z N X out 2 (co9 out.1) cX3_append RX3 1 1 [])  (x0 : Nat) (x1 : Int32) (s0 : Int32) (s1 : Nat) (M : Mem9) : J9 z N X out 2 31 [(0, .ref x0), (1, .int x1)] [.int s0, .ref s1] M (0, 0) (f_X3_append_b31 z  x0 x1 s0 s1 M) := by
  refine j_callVi (pc := 31) C rfl dX3_append_31 lv_X3_130 rfl (Nat.le_of_ble_eq_true rfl) (Nat.le_of_ble_eq_true rfl) (by decide) (Or.inl rfl) ⟨Nat.le_refl _, Nat.le_refl _⟩ (fun l hl o ho => sp_X3_refused hl ho) (fun v7 M6 => ?_)
  refine j_if_eq (pc := 34) C dX3_append_34 (tgt := 39) (by decide) (fun hc14 => ?_) (fun hc14 => ?_)
  · refine j_aload_n (pc := 39) C dX3_append_39 rfl ?_
    refine j_getR (pc := 40) C dX3_append_40 fl_X3_7 fr_X3_1 (fun v8 => ?_)
    refine j_aload_n (pc := 43) C dX3_append_43 rfl ?_
    refine j_getI (pc := 44) C dX3_append_44 fl_X3_127 fi_X3_2 (fun v9 => ?_)
    refine j_iload_n (pc := 47) C dX3_append_47 rfl ?_
    refine j_iastore (pc := 48) C dX3_append_48 (fun M10 => ?_)
    refine j_aload_n (pc := 49) C dX3_append_49 rfl ?_
    refine j_dup (pc := 50) C dX3_append_50 rfl ?_
    refine j_getI (pc := 51) C dX3_append_51 fl_X3_127 fi_X3_2 (fun v11 => ?_)
    refine j_iconst (pc := 54) C dX3_append_54 (v := 1) rfl ?_
    refine j_iadd (pc := 55) C dX3_append_55 ?_
    refine j_putI (pc := 56) C dX3_append_56 fl_X3_127 fi_X3_2 rfl rfl (fun M12 => ?_)
    refine j_aload_n (pc := 59) C dX3_append_59 rfl ?_
    refine j_getI (pc := 60) C dX3_append_60 fl_X3_127 fi_X3_2 (fun v13 => ?_)
    exact j_ireturn (pc := 63) C rfl dX3_append_63 ⟨Nat.zero_le _, Nat.zero_le _⟩
  · refine j_iconst (pc := 37) C dX3_append_37 (v := 0) rfl ?_
    exact j_ireturn (pc := 38) C rfl dX3_append_38 ⟨Nat.zero_le _, Nat.zero_le _⟩
def f_X3_append (z : Sh9) (a0 : Nat) (a1 : Int32) (M : Mem9) : Re9 :=
  (bi9 (f_X3_in z (Int32.toInt64 a1) (0 : Int64) (255 : Int64) M) fun v2 M1 => (if v2 = 0 then (f_X3_append_b31 z  a0 a1 (1 : Int32) a0 M1) else ((gf9 z M1 a0 3 2).bind fun v3 => (if v3 = (120 : Int32) then (f_X3_append_b31 z  a0 a1 (2 : Int32) a0 M1) else (f_X3_append_b31 z  a0 a1 (0 : Int32) a0 M1)))))
set_option maxRecDepth 20000 in
set_option maxHeartbeats 4000000 in
theorem t_X3_append {z : Sh9} {N : Nv9} {X : Cx9} {out : Out9 × Mem9} (C : OK9 z N X out 2 (co9 out.1) cX3_append RX3 1 1 []) (a0 : Nat) (a1 : Int32) (M : Mem9) : J9 z N X out 2 0 [(0, .ref a0), (1, .int a1)] [] M (0, 0) (f_X3_append z a0 a1 M) := by
  refine j_aload_n (pc := 0) C dX3_append_0 rfl ?_
  refine j_iload_n (pc := 1) C dX3_append_1 rfl ?_
  refine j_i2l (pc := 2) C dX3_append_2 ?_
  refine j_lconst (pc := 3) C dX3_append_3 (v := 0) rfl ?_
  refine j_ldc2 (pc := 4) C dX3_append_4 (v := 255) w9_783 ?_
  refine j_callSi (pc := 7) C rfl dX3_append_7 ls_X3_40 rfl (Nat.le_of_ble_eq_true rfl) (Nat.le_of_ble_eq_true rfl) (by decide) (Or.inl rfl) ⟨Nat.le_refl _, Nat.le_refl _⟩ (fun l hl o ho => sp_X3_in hl ho) (fun v2 M1 => ?_)
  refine j_if_ne (pc := 10) C dX3_append_10 (tgt := 17) (by decide) (fun hc5 => ?_) (fun hc5 => ?_)
  · refine j_aload_n (pc := 17) C dX3_append_17 rfl ?_
    refine j_getI (pc := 18) C dX3_append_18 fl_X3_127 fi_X3_2 (fun v3 => ?_)
    refine j_bipush (pc := 21) C dX3_append_21 (v := 120) rfl ?_
    refine j_icmp_ne (pc := 23) C dX3_append_23 (tgt := 30) (by decide) (fun hc4 => ?_) (fun hc4 => ?_)
    · refine j_iconst (pc := 30) C dX3_append_30 (v := 0) rfl ?_
      exact t_X3_append_b31 C  a0 a1 (0 : Int32) a0 M1
    · refine j_iconst (pc := 26) C dX3_append_26 (v := 2) rfl ?_
      refine j_goto (pc := 27) C dX3_append_27 (tgt := 31) (by decide) ?_
      exact t_X3_append_b31 C  a0 a1 (2 : Int32) a0 M1
  · refine j_iconst (pc := 13) C dX3_append_13 (v := 1) rfl ?_
    refine j_goto (pc := 14) C dX3_append_14 (tgt := 31) (by decide) ?_
    exact t_X3_append_b31 C  a0 a1 (1 : Int32) a0 M1
theorem sp_X3_append {l : Launch} {z : Sh9} {N : Nv9} {a0 : Nat} {a1 : Int32} {M : Mem9} {o : Out9 × Mem9} (hl : l.stackTraces = false) (h : f_X3_append z a0 a1 M = some o) : Sp9 l z N yX3_append (Cond.code yX3_append cX3_append 2 (some .int)) 1 [.ref a0, .int a1] M (co9 o.1) o :=
  sp9_of (rk := 1) (own := RX3) (by decide +kernel) rfl (Or.inr (Or.inl ⟨rfl, rfl⟩)) hl (Nat.le_of_ble_eq_true rfl) (fun X C => t_X3_append C a0 a1 M) h
def f_X3_place (z : Sh9) (a0 : Int32) (a1 : Int32) (M : Mem9) : Re9 :=
  (ri9 (((7 : Int32) + ((5 : Int32) * a0)) + a1) M)
set_option maxRecDepth 20000 in
set_option maxHeartbeats 4000000 in
theorem t_X3_place {z : Sh9} {N : Nv9} {X : Cx9} {out : Out9 × Mem9} (C : OK9 z N X out 2 (co9 out.1) cX3_place RX3 0 1 []) (a0 : Int32) (a1 : Int32) (M : Mem9) : J9 z N X out 2 0 [(0, .int a0), (1, .int a1)] [] M (0, 0) (f_X3_place z a0 a1 M) := by
  refine j_bipush (pc := 0) C dX3_place_0 (v := 7) rfl ?_
  refine j_iconst (pc := 2) C dX3_place_2 (v := 5) rfl ?_
  refine j_iload_n (pc := 3) C dX3_place_3 rfl ?_
  refine j_imul (pc := 4) C dX3_place_4 ?_
  refine j_iadd (pc := 5) C dX3_place_5 ?_
  refine j_iload_n (pc := 6) C dX3_place_6 rfl ?_
  refine j_iadd (pc := 7) C dX3_place_7 ?_
  exact j_ireturn (pc := 8) C rfl dX3_place_8 ⟨Nat.zero_le _, Nat.zero_le _⟩
theorem sp_X3_place {l : Launch} {z : Sh9} {N : Nv9} {a0 : Int32} {a1 : Int32} {M : Mem9} {o : Out9 × Mem9} (hl : l.stackTraces = false) (h : f_X3_place z a0 a1 M = some o) : Sp9 l z N yX3_place (Cond.code yX3_place cX3_place 2 (some .int)) 0 [.int a0, .int a1] M (co9 o.1) o :=
  sp9_of (rk := 1) (own := RX3) (by decide +kernel) rfl (Or.inr (Or.inl ⟨rfl, rfl⟩)) hl (Nat.le_of_ble_eq_true rfl) (fun X C => t_X3_place C a0 a1 M) h
def f_X3_told (z : Sh9) (a0 : Nat) (a1 : Int32) (a2 : Int32) (a3 : Int32) (M : Mem9) : Re9 :=
  (bi9 (f_X3_place z a2 a3 M) fun v2 M1 => (bi9 (f_X3_of z a0 a1 v2 M1) fun v4 M3 => (ri9 v4 M3)))
set_option maxRecDepth 20000 in
set_option maxHeartbeats 4000000 in
theorem t_X3_told {z : Sh9} {N : Nv9} {X : Cx9} {out : Out9 × Mem9} (C : OK9 z N X out 4 (co9 out.1) cX3_told RX3 1 1 []) (a0 : Nat) (a1 : Int32) (a2 : Int32) (a3 : Int32) (M : Mem9) : J9 z N X out 4 0 [(0, .ref a0), (1, .int a1), (2, .int a2), (3, .int a3)] [] M (0, 0) (f_X3_told z a0 a1 a2 a3 M) := by
  refine j_aload_n (pc := 0) C dX3_told_0 rfl ?_
  refine j_iload_n (pc := 1) C dX3_told_1 rfl ?_
  refine j_iload_n (pc := 2) C dX3_told_2 rfl ?_
  refine j_iload_n (pc := 3) C dX3_told_3 rfl ?_
  refine j_callSi (pc := 4) C rfl dX3_told_4 ls_X3_52 rfl (Nat.le_of_ble_eq_true rfl) (Nat.le_of_ble_eq_true rfl) (by decide) (Or.inl rfl) ⟨Nat.le_refl _, Nat.le_refl _⟩ (fun l hl o ho => sp_X3_place hl ho) (fun v2 M1 => ?_)
  refine j_callSi (pc := 7) C rfl dX3_told_7 ls_X3_48 rfl (Nat.le_of_ble_eq_true rfl) (Nat.le_of_ble_eq_true rfl) (by decide) (Or.inl rfl) ⟨Nat.le_refl _, Nat.le_refl _⟩ (fun l hl o ho => sp_X3_of hl ho) (fun v4 M3 => ?_)
  exact j_ireturn (pc := 10) C rfl dX3_told_10 ⟨Nat.zero_le _, Nat.zero_le _⟩
theorem sp_X3_told {l : Launch} {z : Sh9} {N : Nv9} {a0 : Nat} {a1 : Int32} {a2 : Int32} {a3 : Int32} {M : Mem9} {o : Out9 × Mem9} (hl : l.stackTraces = false) (h : f_X3_told z a0 a1 a2 a3 M = some o) : Sp9 l z N yX3_told (Cond.code yX3_told cX3_told 4 (some .int)) 1 [.ref a0, .int a1, .int a2, .int a3] M (co9 o.1) o :=
  sp9_of (rk := 1) (own := RX3) (by decide +kernel) rfl (Or.inr (Or.inl ⟨rfl, rfl⟩)) hl (Nat.le_of_ble_eq_true rfl) (fun X C => t_X3_told C a0 a1 a2 a3 M) h
def f_X3_last (z : Sh9) (a0 : Nat) (a1 : Int32) (a2 : Int32) (M : Mem9) : Re9 :=
  (bi9 (f_X3_told z a0 a1 a2 (1 : Int32) M) fun v2 M1 => (bi9 (f_X3_told z a0 a1 a2 (0 : Int32) M1) fun v4 M3 => (ri9 ((v2 - v4) + (1 : Int32)) M3)))
set_option maxRecDepth 20000 in
set_option maxHeartbeats 4000000 in
theorem t_X3_last {z : Sh9} {N : Nv9} {X : Cx9} {out : Out9 × Mem9} (C : OK9 z N X out 3 (co9 out.1) cX3_last RX3 2 1 []) (a0 : Nat) (a1 : Int32) (a2 : Int32) (M : Mem9) : J9 z N X out 3 0 [(0, .ref a0), (1, .int a1), (2, .int a2)] [] M (0, 0) (f_X3_last z a0 a1 a2 M) := by
  refine j_aload_n (pc := 0) C dX3_last_0 rfl ?_
  refine j_iload_n (pc := 1) C dX3_last_1 rfl ?_
  refine j_iload_n (pc := 2) C dX3_last_2 rfl ?_
  refine j_iconst (pc := 3) C dX3_last_3 (v := 1) rfl ?_
  refine j_callSi (pc := 4) C rfl dX3_last_4 ls_X3_56 rfl (Nat.le_of_ble_eq_true rfl) (Nat.le_of_ble_eq_true rfl) (by decide) (Or.inl rfl) ⟨Nat.le_refl _, Nat.le_refl _⟩ (fun l hl o ho => sp_X3_told hl ho) (fun v2 M1 => ?_)
  refine j_aload_n (pc := 7) C dX3_last_7 rfl ?_
  refine j_iload_n (pc := 8) C dX3_last_8 rfl ?_
  refine j_iload_n (pc := 9) C dX3_last_9 rfl ?_
  refine j_iconst (pc := 10) C dX3_last_10 (v := 0) rfl ?_
  refine j_callSi (pc := 11) C rfl dX3_last_11 ls_X3_56 rfl (Nat.le_of_ble_eq_true rfl) (Nat.le_of_ble_eq_true rfl) (by decide) (Or.inl rfl) ⟨Nat.le_refl _, Nat.le_refl _⟩ (fun l hl o ho => sp_X3_told hl ho) (fun v4 M3 => ?_)
  refine j_isub (pc := 14) C dX3_last_14 ?_
  refine j_iconst (pc := 15) C dX3_last_15 (v := 1) rfl ?_
  refine j_iadd (pc := 16) C dX3_last_16 ?_
  exact j_ireturn (pc := 17) C rfl dX3_last_17 ⟨Nat.zero_le _, Nat.zero_le _⟩
theorem sp_X3_last {l : Launch} {z : Sh9} {N : Nv9} {a0 : Nat} {a1 : Int32} {a2 : Int32} {M : Mem9} {o : Out9 × Mem9} (hl : l.stackTraces = false) (h : f_X3_last z a0 a1 a2 M = some o) : Sp9 l z N yX3_last (Cond.code yX3_last cX3_last 3 (some .int)) 2 [.ref a0, .int a1, .int a2] M (co9 o.1) o :=
  sp9_of (rk := 1) (own := RX3) (by decide +kernel) rfl (Or.inr (Or.inl ⟨rfl, rfl⟩)) hl (Nat.le_of_ble_eq_true rfl) (fun X C => t_X3_last C a0 a1 a2 M) h
def f_X3_lay (z : Sh9) (a0 : Nat) (a1 : Int32) (a2 : Int32) (a3 : Int32) (M : Mem9) : Re9 :=
  ((st9 z M a0 (((10 : Int32) + ((37 : Int32) * a1)) + a2) a3).bind fun M1 => (rv9 M1))
set_option maxRecDepth 20000 in
set_option maxHeartbeats 4000000 in
theorem t_X3_lay {z : Sh9} {N : Nv9} {X : Cx9} {out : Out9 × Mem9} (C : OK9 z N X out 4 (co9 out.1) cX3_lay RX3 0 0 []) (a0 : Nat) (a1 : Int32) (a2 : Int32) (a3 : Int32) (M : Mem9) : J9 z N X out 4 0 [(0, .ref a0), (1, .int a1), (2, .int a2), (3, .int a3)] [] M (0, 0) (f_X3_lay z a0 a1 a2 a3 M) := by
  refine j_aload_n (pc := 0) C dX3_lay_0 rfl ?_
  refine j_bipush (pc := 1) C dX3_lay_1 (v := 10) rfl ?_
  refine j_bipush (pc := 3) C dX3_lay_3 (v := 37) rfl ?_
  refine j_iload_n (pc := 5) C dX3_lay_5 rfl ?_
  refine j_imul (pc := 6) C dX3_lay_6 ?_
  refine j_iadd (pc := 7) C dX3_lay_7 ?_
  refine j_iload_n (pc := 8) C dX3_lay_8 rfl ?_
  refine j_iadd (pc := 9) C dX3_lay_9 ?_
  refine j_iload_n (pc := 10) C dX3_lay_10 rfl ?_
  refine j_iastore (pc := 11) C dX3_lay_11 (fun M1 => ?_)
  exact j_return (pc := 12) C rfl dX3_lay_12 ⟨Nat.zero_le _, Nat.zero_le _⟩
theorem sp_X3_lay {l : Launch} {z : Sh9} {N : Nv9} {a0 : Nat} {a1 : Int32} {a2 : Int32} {a3 : Int32} {M : Mem9} {o : Out9 × Mem9} (hl : l.stackTraces = false) (h : f_X3_lay z a0 a1 a2 a3 M = some o) : Sp9 l z N yX3_lay (Cond.code yX3_lay cX3_lay 4 none) 0 [.ref a0, .int a1, .int a2, .int a3] M (co9 o.1) o :=
  sp9_of (rk := 0) (own := RX3) (by decide +kernel) rfl (Or.inl ⟨rfl, rfl⟩) hl (Nat.le_of_ble_eq_true rfl) (fun X C => t_X3_lay C a0 a1 a2 a3 M) h
def f_X3_arriveOn_b103 (z : Sh9)  (x0 : Nat) (x1 : Int32) (x5 : Int32) (s0 : Int32) (s1 : Int32) (s2 : Int32) (s3 : Nat) (M : Mem9) : Re9 :=
  (bv9 (f_X3_lay z s3 s2 s1 s0 M) fun M20 => (bi9 (f_X3_place z x5 (4 : Int32) M20) fun v22 M21 => (bv9 (f_X3_lay z x0 x1 v22 (0 : Int32) M21) fun M23 => (bv9 (f_X3_lay z x0 x1 (0 : Int32) (x5 + (1 : Int32)) M23) fun M24 => (ri9 (x5 + (1 : Int32)) M24)))))
set_option maxRecDepth 20000 in
set_option maxHeartbeats 4000000 in
theorem t_X3_arriveOn_b103 {z : Sh9} {N : Nv9} {X : Cx9} {out : Out9 × Mem9} (C : OK9 z N X out 7 (co9 out.1) cX3_arriveOn RX3 3 1 [])  (x0 : Nat) (x1 : Int32) (x5 : Int32) (s0 : Int32) (s1 : Int32) (s2 : Int32) (s3 : Nat) (M : Mem9) : J9 z N X out 7 103 [(0, .ref x0), (1, .int x1), (5, .int x5)] [.int s0, .int s1, .int s2, .ref s3] M (0, 0) (f_X3_arriveOn_b103 z  x0 x1 x5 s0 s1 s2 s3 M) := by
  refine j_callSv (pc := 103) C rfl dX3_arriveOn_103 ls_X3_67 rfl (Nat.le_of_ble_eq_true rfl) (Nat.le_of_ble_eq_true rfl) (by decide) (Or.inl rfl) ⟨Nat.le_refl _, Nat.le_refl _⟩ (fun l hl o ho => sp_X3_lay hl ho) (fun M20 => ?_)
  refine j_aload_n (pc := 106) C dX3_arriveOn_106 rfl ?_
  refine j_iload_n (pc := 107) C dX3_arriveOn_107 rfl ?_
  refine j_iload (pc := 108) C dX3_arriveOn_108 rfl ?_
  refine j_iconst (pc := 110) C dX3_arriveOn_110 (v := 4) rfl ?_
  refine j_callSi (pc := 111) C rfl dX3_arriveOn_111 ls_X3_52 rfl (Nat.le_of_ble_eq_true rfl) (Nat.le_of_ble_eq_true rfl) (by decide) (Or.inl rfl) ⟨Nat.le_refl _, Nat.le_refl _⟩ (fun l hl o ho => sp_X3_place hl ho) (fun v22 M21 => ?_)
  refine j_iconst (pc := 114) C dX3_arriveOn_114 (v := 0) rfl ?_
  refine j_callSv (pc := 115) C rfl dX3_arriveOn_115 ls_X3_67 rfl (Nat.le_of_ble_eq_true rfl) (Nat.le_of_ble_eq_true rfl) (by decide) (Or.inl rfl) ⟨Nat.le_refl _, Nat.le_refl _⟩ (fun l hl o ho => sp_X3_lay hl ho) (fun M23 => ?_)
  refine j_aload_n (pc := 118) C dX3_arriveOn_118 rfl ?_
  refine j_iload_n (pc := 119) C dX3_arriveOn_119 rfl ?_
  refine j_iconst (pc := 120) C dX3_arriveOn_120 (v := 0) rfl ?_
  refine j_iload (pc := 121) C dX3_arriveOn_121 rfl ?_
  refine j_iconst (pc := 123) C dX3_arriveOn_123 (v := 1) rfl ?_
  refine j_iadd (pc := 124) C dX3_arriveOn_124 ?_
  refine j_callSv (pc := 125) C rfl dX3_arriveOn_125 ls_X3_67 rfl (Nat.le_of_ble_eq_true rfl) (Nat.le_of_ble_eq_true rfl) (by decide) (Or.inl rfl) ⟨Nat.le_refl _, Nat.le_refl _⟩ (fun l hl o ho => sp_X3_lay hl ho) (fun M24 => ?_)
  refine j_iload (pc := 128) C dX3_arriveOn_128 rfl ?_
  refine j_iconst (pc := 130) C dX3_arriveOn_130 (v := 1) rfl ?_
  refine j_iadd (pc := 131) C dX3_arriveOn_131 ?_
  exact j_ireturn (pc := 132) C rfl dX3_arriveOn_132 ⟨Nat.zero_le _, Nat.zero_le _⟩
def f_X3_arriveOn_b82 (z : Sh9)  (x0 : Nat) (x1 : Int32) (x4 : Int32) (x5 : Int32) (s0 : Int32) (s1 : Int32) (s2 : Int32) (s3 : Nat) (M : Mem9) : Re9 :=
  (bv9 (f_X3_lay z s3 s2 s1 s0 M) fun M16 => (bi9 (f_X3_place z x5 (3 : Int32) M16) fun v18 M17 => (if x4 = 0 then (f_X3_arriveOn_b103 z  x0 x1 x5 (0 : Int32) v18 x1 x0 M17) else (f_X3_arriveOn_b103 z  x0 x1 x5 (1 : Int32) v18 x1 x0 M17))))
set_option maxRecDepth 20000 in
set_option maxHeartbeats 4000000 in
theorem t_X3_arriveOn_b82 {z : Sh9} {N : Nv9} {X : Cx9} {out : Out9 × Mem9} (C : OK9 z N X out 7 (co9 out.1) cX3_arriveOn RX3 3 1 [])  (x0 : Nat) (x1 : Int32) (x4 : Int32) (x5 : Int32) (s0 : Int32) (s1 : Int32) (s2 : Int32) (s3 : Nat) (M : Mem9) : J9 z N X out 7 82 [(0, .ref x0), (1, .int x1), (4, .int x4), (5, .int x5)] [.int s0, .int s1, .int s2, .ref s3] M (0, 0) (f_X3_arriveOn_b82 z  x0 x1 x4 x5 s0 s1 s2 s3 M) := by
  refine j_callSv (pc := 82) C rfl dX3_arriveOn_82 ls_X3_67 rfl (Nat.le_of_ble_eq_true rfl) (Nat.le_of_ble_eq_true rfl) (by decide) (Or.inl rfl) ⟨Nat.le_refl _, Nat.le_refl _⟩ (fun l hl o ho => sp_X3_lay hl ho) (fun M16 => ?_)
  refine j_aload_n (pc := 85) C dX3_arriveOn_85 rfl ?_
  refine j_iload_n (pc := 86) C dX3_arriveOn_86 rfl ?_
  refine j_iload (pc := 87) C dX3_arriveOn_87 rfl ?_
  refine j_iconst (pc := 89) C dX3_arriveOn_89 (v := 3) rfl ?_
  refine j_callSi (pc := 90) C rfl dX3_arriveOn_90 ls_X3_52 rfl (Nat.le_of_ble_eq_true rfl) (Nat.le_of_ble_eq_true rfl) (by decide) (Or.inl rfl) ⟨Nat.le_refl _, Nat.le_refl _⟩ (fun l hl o ho => sp_X3_place hl ho) (fun v18 M17 => ?_)
  refine j_iload (pc := 93) C dX3_arriveOn_93 rfl ?_
  refine j_if_eq (pc := 95) C dX3_arriveOn_95 (tgt := 102) (by decide) (fun hc19 => ?_) (fun hc19 => ?_)
  · refine j_iconst (pc := 102) C dX3_arriveOn_102 (v := 0) rfl ?_
    refine j_loc [0, 1, 3] rfl ?_
    exact t_X3_arriveOn_b103 C  x0 x1 x5 (0 : Int32) v18 x1 x0 M17
  · refine j_iconst (pc := 98) C dX3_arriveOn_98 (v := 1) rfl ?_
    refine j_goto (pc := 99) C dX3_arriveOn_99 (tgt := 103) (by decide) ?_
    refine j_loc [0, 1, 3] rfl ?_
    exact t_X3_arriveOn_b103 C  x0 x1 x5 (1 : Int32) v18 x1 x0 M17
def f_X3_arriveOn_b62 (z : Sh9)  (x0 : Nat) (x1 : Int32) (x3 : Int32) (x4 : Int32) (x5 : Int32) (s0 : Int32) (s1 : Int32) (s2 : Int32) (s3 : Nat) (M : Mem9) : Re9 :=
  (bv9 (f_X3_lay z s3 s2 s1 s0 M) fun M12 => (bi9 (f_X3_place z x5 (2 : Int32) M12) fun v14 M13 => (if x3 = 0 then (f_X3_arriveOn_b82 z  x0 x1 x4 x5 (0 : Int32) v14 x1 x0 M13) else (f_X3_arriveOn_b82 z  x0 x1 x4 x5 (1 : Int32) v14 x1 x0 M13))))
set_option maxRecDepth 20000 in
set_option maxHeartbeats 4000000 in
theorem t_X3_arriveOn_b62 {z : Sh9} {N : Nv9} {X : Cx9} {out : Out9 × Mem9} (C : OK9 z N X out 7 (co9 out.1) cX3_arriveOn RX3 3 1 [])  (x0 : Nat) (x1 : Int32) (x3 : Int32) (x4 : Int32) (x5 : Int32) (s0 : Int32) (s1 : Int32) (s2 : Int32) (s3 : Nat) (M : Mem9) : J9 z N X out 7 62 [(0, .ref x0), (1, .int x1), (3, .int x3), (4, .int x4), (5, .int x5)] [.int s0, .int s1, .int s2, .ref s3] M (0, 0) (f_X3_arriveOn_b62 z  x0 x1 x3 x4 x5 s0 s1 s2 s3 M) := by
  refine j_callSv (pc := 62) C rfl dX3_arriveOn_62 ls_X3_67 rfl (Nat.le_of_ble_eq_true rfl) (Nat.le_of_ble_eq_true rfl) (by decide) (Or.inl rfl) ⟨Nat.le_refl _, Nat.le_refl _⟩ (fun l hl o ho => sp_X3_lay hl ho) (fun M12 => ?_)
  refine j_aload_n (pc := 65) C dX3_arriveOn_65 rfl ?_
  refine j_iload_n (pc := 66) C dX3_arriveOn_66 rfl ?_
  refine j_iload (pc := 67) C dX3_arriveOn_67 rfl ?_
  refine j_iconst (pc := 69) C dX3_arriveOn_69 (v := 2) rfl ?_
  refine j_callSi (pc := 70) C rfl dX3_arriveOn_70 ls_X3_52 rfl (Nat.le_of_ble_eq_true rfl) (Nat.le_of_ble_eq_true rfl) (by decide) (Or.inl rfl) ⟨Nat.le_refl _, Nat.le_refl _⟩ (fun l hl o ho => sp_X3_place hl ho) (fun v14 M13 => ?_)
  refine j_iload_n (pc := 73) C dX3_arriveOn_73 rfl ?_
  refine j_if_eq (pc := 74) C dX3_arriveOn_74 (tgt := 81) (by decide) (fun hc15 => ?_) (fun hc15 => ?_)
  · refine j_iconst (pc := 81) C dX3_arriveOn_81 (v := 0) rfl ?_
    refine j_loc [0, 1, 3, 4] rfl ?_
    exact t_X3_arriveOn_b82 C  x0 x1 x4 x5 (0 : Int32) v14 x1 x0 M13
  · refine j_iconst (pc := 77) C dX3_arriveOn_77 (v := 1) rfl ?_
    refine j_goto (pc := 78) C dX3_arriveOn_78 (tgt := 82) (by decide) ?_
    refine j_loc [0, 1, 3, 4] rfl ?_
    exact t_X3_arriveOn_b82 C  x0 x1 x4 x5 (1 : Int32) v14 x1 x0 M13
def f_X3_arriveOn_b28 (z : Sh9)  (x0 : Nat) (x1 : Int32) (x2 : Int32) (x3 : Int32) (x4 : Int32) (x5 : Int32) (s0 : Int32) (M : Mem9) : Re9 :=
  (bi9 (f_X3_place z x5 (0 : Int32) M) fun v7 M6 => (bv9 (f_X3_lay z x0 x1 v7 x2 M6) fun M8 => (bi9 (f_X3_place z x5 (1 : Int32) M8) fun v10 M9 => (if (-1 : Int32) ≤ s0 then (f_X3_arriveOn_b62 z  x0 x1 x3 x4 x5 (-1 : Int32) v10 x1 x0 M9) else (f_X3_arriveOn_b62 z  x0 x1 x3 x4 x5 s0 v10 x1 x0 M9)))))
set_option maxRecDepth 20000 in
set_option maxHeartbeats 4000000 in
theorem t_X3_arriveOn_b28 {z : Sh9} {N : Nv9} {X : Cx9} {out : Out9 × Mem9} (C : OK9 z N X out 7 (co9 out.1) cX3_arriveOn RX3 3 1 [])  (x0 : Nat) (x1 : Int32) (x2 : Int32) (x3 : Int32) (x4 : Int32) (x5 : Int32) (s0 : Int32) (M : Mem9) : J9 z N X out 7 28 [(0, .ref x0), (1, .int x1), (2, .int x2), (3, .int x3), (4, .int x4), (5, .int x5)] [.int s0] M (0, 0) (f_X3_arriveOn_b28 z  x0 x1 x2 x3 x4 x5 s0 M) := by
  refine j_istore (pc := 28) C dX3_arriveOn_28 (Nat.le_of_ble_eq_true rfl) (ls' := [(6, .int s0), (0, .ref x0), (1, .int x1), (2, .int x2), (3, .int x3), (4, .int x4), (5, .int x5)]) rfl ?_
  refine j_aload_n (pc := 30) C dX3_arriveOn_30 rfl ?_
  refine j_iload_n (pc := 31) C dX3_arriveOn_31 rfl ?_
  refine j_iload (pc := 32) C dX3_arriveOn_32 rfl ?_
  refine j_iconst (pc := 34) C dX3_arriveOn_34 (v := 0) rfl ?_
  refine j_callSi (pc := 35) C rfl dX3_arriveOn_35 ls_X3_52 rfl (Nat.le_of_ble_eq_true rfl) (Nat.le_of_ble_eq_true rfl) (by decide) (Or.inl rfl) ⟨Nat.le_refl _, Nat.le_refl _⟩ (fun l hl o ho => sp_X3_place hl ho) (fun v7 M6 => ?_)
  refine j_iload_n (pc := 38) C dX3_arriveOn_38 rfl ?_
  refine j_callSv (pc := 39) C rfl dX3_arriveOn_39 ls_X3_67 rfl (Nat.le_of_ble_eq_true rfl) (Nat.le_of_ble_eq_true rfl) (by decide) (Or.inl rfl) ⟨Nat.le_refl _, Nat.le_refl _⟩ (fun l hl o ho => sp_X3_lay hl ho) (fun M8 => ?_)
  refine j_aload_n (pc := 42) C dX3_arriveOn_42 rfl ?_
  refine j_iload_n (pc := 43) C dX3_arriveOn_43 rfl ?_
  refine j_iload (pc := 44) C dX3_arriveOn_44 rfl ?_
  refine j_iconst (pc := 46) C dX3_arriveOn_46 (v := 1) rfl ?_
  refine j_callSi (pc := 47) C rfl dX3_arriveOn_47 ls_X3_52 rfl (Nat.le_of_ble_eq_true rfl) (Nat.le_of_ble_eq_true rfl) (by decide) (Or.inl rfl) ⟨Nat.le_refl _, Nat.le_refl _⟩ (fun l hl o ho => sp_X3_place hl ho) (fun v10 M9 => ?_)
  refine j_iload (pc := 50) C dX3_arriveOn_50 rfl ?_
  refine j_iconst (pc := 52) C dX3_arriveOn_52 (v := -1) rfl ?_
  refine j_icmp_ge (pc := 53) C dX3_arriveOn_53 (tgt := 61) (by decide) (fun hc11 => ?_) (fun hc11 => ?_)
  · refine j_iconst (pc := 61) C dX3_arriveOn_61 (v := -1) rfl ?_
    refine j_loc [1, 2, 4, 5, 6] rfl ?_
    exact t_X3_arriveOn_b62 C  x0 x1 x3 x4 x5 (-1 : Int32) v10 x1 x0 M9
  · refine j_iload (pc := 56) C dX3_arriveOn_56 rfl ?_
    refine j_goto (pc := 58) C dX3_arriveOn_58 (tgt := 62) (by decide) ?_
    refine j_loc [1, 2, 4, 5, 6] rfl ?_
    exact t_X3_arriveOn_b62 C  x0 x1 x3 x4 x5 s0 v10 x1 x0 M9
def f_X3_arriveOn (z : Sh9) (a0 : Nat) (a1 : Int32) (a2 : Int32) (a3 : Int32) (a4 : Int32) (M : Mem9) : Re9 :=
  (bi9 (f_X3_of z a0 a1 (0 : Int32) M) fun v2 M1 => (if v2 = 0 then (f_X3_arriveOn_b28 z  a0 a1 a2 a3 a4 v2 (-1 : Int32) M1) else (bi9 (f_X3_last z a0 a1 (v2 - (1 : Int32)) M1) fun v4 M3 => (f_X3_arriveOn_b28 z  a0 a1 a2 a3 a4 v2 (v4 - (2 : Int32)) M3))))
set_option maxRecDepth 20000 in
set_option maxHeartbeats 4000000 in
theorem t_X3_arriveOn {z : Sh9} {N : Nv9} {X : Cx9} {out : Out9 × Mem9} (C : OK9 z N X out 7 (co9 out.1) cX3_arriveOn RX3 3 1 []) (a0 : Nat) (a1 : Int32) (a2 : Int32) (a3 : Int32) (a4 : Int32) (M : Mem9) : J9 z N X out 7 0 [(0, .ref a0), (1, .int a1), (2, .int a2), (3, .int a3), (4, .int a4)] [] M (0, 0) (f_X3_arriveOn z a0 a1 a2 a3 a4 M) := by
  refine j_aload_n (pc := 0) C dX3_arriveOn_0 rfl ?_
  refine j_iload_n (pc := 1) C dX3_arriveOn_1 rfl ?_
  refine j_iconst (pc := 2) C dX3_arriveOn_2 (v := 0) rfl ?_
  refine j_callSi (pc := 3) C rfl dX3_arriveOn_3 ls_X3_48 rfl (Nat.le_of_ble_eq_true rfl) (Nat.le_of_ble_eq_true rfl) (by decide) (Or.inl rfl) ⟨Nat.le_refl _, Nat.le_refl _⟩ (fun l hl o ho => sp_X3_of hl ho) (fun v2 M1 => ?_)
  refine j_istore (pc := 6) C dX3_arriveOn_6 (Nat.le_of_ble_eq_true rfl) (ls' := [(5, .int v2), (0, .ref a0), (1, .int a1), (2, .int a2), (3, .int a3), (4, .int a4)]) rfl ?_
  refine j_iload (pc := 8) C dX3_arriveOn_8 rfl ?_
  refine j_if_ne (pc := 10) C dX3_arriveOn_10 (tgt := 17) (by decide) (fun hc5 => ?_) (fun hc5 => ?_)
  · refine j_aload_n (pc := 17) C dX3_arriveOn_17 rfl ?_
    refine j_iload_n (pc := 18) C dX3_arriveOn_18 rfl ?_
    refine j_iload (pc := 19) C dX3_arriveOn_19 rfl ?_
    refine j_iconst (pc := 21) C dX3_arriveOn_21 (v := 1) rfl ?_
    refine j_isub (pc := 22) C dX3_arriveOn_22 ?_
    refine j_callSi (pc := 23) C rfl dX3_arriveOn_23 ls_X3_60 rfl (Nat.le_of_ble_eq_true rfl) (Nat.le_of_ble_eq_true rfl) (by decide) (Or.inl rfl) ⟨Nat.le_refl _, Nat.le_refl _⟩ (fun l hl o ho => sp_X3_last hl ho) (fun v4 M3 => ?_)
    refine j_iconst (pc := 26) C dX3_arriveOn_26 (v := 2) rfl ?_
    refine j_isub (pc := 27) C dX3_arriveOn_27 ?_
    refine j_loc [1, 2, 3, 4, 5, 0] rfl ?_
    exact t_X3_arriveOn_b28 C  a0 a1 a2 a3 a4 v2 (v4 - (2 : Int32)) M3
  · refine j_iconst (pc := 13) C dX3_arriveOn_13 (v := -1) rfl ?_
    refine j_goto (pc := 14) C dX3_arriveOn_14 (tgt := 28) (by decide) ?_
    refine j_loc [1, 2, 3, 4, 5, 0] rfl ?_
    exact t_X3_arriveOn_b28 C  a0 a1 a2 a3 a4 v2 (-1 : Int32) M1
theorem sp_X3_arriveOn {l : Launch} {z : Sh9} {N : Nv9} {a0 : Nat} {a1 : Int32} {a2 : Int32} {a3 : Int32} {a4 : Int32} {M : Mem9} {o : Out9 × Mem9} (hl : l.stackTraces = false) (h : f_X3_arriveOn z a0 a1 a2 a3 a4 M = some o) : Sp9 l z N yX3_arriveOn (Cond.code yX3_arriveOn cX3_arriveOn 7 (some .int)) 3 [.ref a0, .int a1, .int a2, .int a3, .int a4] M (co9 o.1) o :=
  sp9_of (rk := 1) (own := RX3) (by decide +kernel) rfl (Or.inr (Or.inl ⟨rfl, rfl⟩)) hl (Nat.le_of_ble_eq_true rfl) (fun X C => t_X3_arriveOn C a0 a1 a2 a3 a4 M) h
def f_X3_isLane (z : Sh9) (a0 : Nat) (a1 : Int32) (M : Mem9) : Re9 :=
  ((ld9 z M 10 a0 (0 : Int32)).bind fun v1 => (bi9 (f_X3_in z (Int32.toInt64 a1) (0 : Int64) (Int32.toInt64 (v1 - (1 : Int32))) M) fun v3 M2 => (rz9 v3 M2)))
set_option maxRecDepth 20000 in
set_option maxHeartbeats 4000000 in
theorem t_X3_isLane {z : Sh9} {N : Nv9} {X : Cx9} {out : Out9 × Mem9} (C : OK9 z N X out 2 (co9 out.1) cX3_isLane RX3 1 2 []) (a0 : Nat) (a1 : Int32) (M : Mem9) : J9 z N X out 2 0 [(0, .ref a0), (1, .int a1)] [] M (0, 0) (f_X3_isLane z a0 a1 M) := by
  refine j_iload_n (pc := 0) C dX3_isLane_0 rfl ?_
  refine j_i2l (pc := 1) C dX3_isLane_1 ?_
  refine j_lconst (pc := 2) C dX3_isLane_2 (v := 0) rfl ?_
  refine j_aload_n (pc := 3) C dX3_isLane_3 rfl ?_
  refine j_iconst (pc := 4) C dX3_isLane_4 (v := 0) rfl ?_
  refine j_iaload (pc := 5) C dX3_isLane_5 (fun v1 => ?_)
  refine j_iconst (pc := 6) C dX3_isLane_6 (v := 1) rfl ?_
  refine j_isub (pc := 7) C dX3_isLane_7 ?_
  refine j_i2l (pc := 8) C dX3_isLane_8 ?_
  refine j_callSi (pc := 9) C rfl dX3_isLane_9 ls_X3_40 rfl (Nat.le_of_ble_eq_true rfl) (Nat.le_of_ble_eq_true rfl) (by decide) (Or.inl rfl) ⟨Nat.le_refl _, Nat.le_refl _⟩ (fun l hl o ho => sp_X3_in hl ho) (fun v3 M2 => ?_)
  exact j_zreturn (pc := 12) C rfl dX3_isLane_12 ⟨Nat.zero_le _, Nat.zero_le _⟩
theorem sp_X3_isLane {l : Launch} {z : Sh9} {N : Nv9} {a0 : Nat} {a1 : Int32} {M : Mem9} {o : Out9 × Mem9} (hl : l.stackTraces = false) (h : f_X3_isLane z a0 a1 M = some o) : Sp9 l z N yX3_isLane (Cond.code yX3_isLane cX3_isLane 2 (some .boolean)) 1 [.ref a0, .int a1] M (co9 o.1) o :=
  sp9_of (rk := 2) (own := RX3) (by decide +kernel) rfl (Or.inr (Or.inr (Or.inl ⟨rfl, rfl⟩))) hl (Nat.le_of_ble_eq_true rfl) (fun X C => t_X3_isLane C a0 a1 M) h
def f_X3_isLength (z : Sh9) (a0 : Int32) (M : Mem9) : Re9 :=
  (bi9 (f_X3_in z (Int32.toInt64 a0) (2 : Int64) (12 : Int64) M) fun v2 M1 => (rz9 v2 M1))
set_option maxRecDepth 20000 in
set_option maxHeartbeats 4000000 in
theorem t_X3_isLength {z : Sh9} {N : Nv9} {X : Cx9} {out : Out9 × Mem9} (C : OK9 z N X out 1 (co9 out.1) cX3_isLength RX3 1 2 []) (a0 : Int32) (M : Mem9) : J9 z N X out 1 0 [(0, .int a0)] [] M (0, 0) (f_X3_isLength z a0 M) := by
  refine j_iload_n (pc := 0) C dX3_isLength_0 rfl ?_
  refine j_i2l (pc := 1) C dX3_isLength_1 ?_
  refine j_ldc2 (pc := 2) C dX3_isLength_2 (v := 2) w9_839 ?_
  refine j_ldc2 (pc := 5) C dX3_isLength_5 (v := 12) w9_840 ?_
  refine j_callSi (pc := 8) C rfl dX3_isLength_8 ls_X3_40 rfl (Nat.le_of_ble_eq_true rfl) (Nat.le_of_ble_eq_true rfl) (by decide) (Or.inl rfl) ⟨Nat.le_refl _, Nat.le_refl _⟩ (fun l hl o ho => sp_X3_in hl ho) (fun v2 M1 => ?_)
  exact j_zreturn (pc := 11) C rfl dX3_isLength_11 ⟨Nat.zero_le _, Nat.zero_le _⟩
theorem sp_X3_isLength {l : Launch} {z : Sh9} {N : Nv9} {a0 : Int32} {M : Mem9} {o : Out9 × Mem9} (hl : l.stackTraces = false) (h : f_X3_isLength z a0 M = some o) : Sp9 l z N yX3_isLength (Cond.code yX3_isLength cX3_isLength 1 (some .boolean)) 1 [.int a0] M (co9 o.1) o :=
  sp9_of (rk := 2) (own := RX3) (by decide +kernel) rfl (Or.inr (Or.inr (Or.inl ⟨rfl, rfl⟩))) hl (Nat.le_of_ble_eq_true rfl) (fun X C => t_X3_isLength C a0 M) h
def f_X3_canArrive (z : Sh9) (a0 : Nat) (a1 : Int32) (a2 : Int32) (M : Mem9) : Re9 :=
  (bi9 (f_X3_isLane z a0 a1 M) fun v2 M1 => (if v2 = 0 then (rz9 (0 : Int32) M1) else (bi9 (f_X3_isLength z a2 M1) fun v4 M3 => (if v4 = 0 then (rz9 (0 : Int32) M3) else (bi9 (f_X3_of z a0 a1 (0 : Int32) M3) fun v6 M5 => (if (6 : Int32) ≤ v6 then (rz9 (0 : Int32) M5) else (rz9 (1 : Int32) M5)))))))
set_option maxRecDepth 20000 in
set_option maxHeartbeats 4000000 in
theorem t_X3_canArrive {z : Sh9} {N : Nv9} {X : Cx9} {out : Out9 × Mem9} (C : OK9 z N X out 3 (co9 out.1) cX3_canArrive RX3 2 2 []) (a0 : Nat) (a1 : Int32) (a2 : Int32) (M : Mem9) : J9 z N X out 3 0 [(0, .ref a0), (1, .int a1), (2, .int a2)] [] M (0, 0) (f_X3_canArrive z a0 a1 a2 M) := by
  refine j_aload_n (pc := 0) C dX3_canArrive_0 rfl ?_
  refine j_iload_n (pc := 1) C dX3_canArrive_1 rfl ?_
  refine j_callSi (pc := 2) C rfl dX3_canArrive_2 ls_X3_44 rfl (Nat.le_of_ble_eq_true rfl) (Nat.le_of_ble_eq_true rfl) (by decide) (Or.inl rfl) ⟨Nat.le_refl _, Nat.le_refl _⟩ (fun l hl o ho => sp_X3_isLane hl ho) (fun v2 M1 => ?_)
  refine j_if_eq (pc := 5) C dX3_canArrive_5 (tgt := 30) (by decide) (fun hc9 => ?_) (fun hc9 => ?_)
  · refine j_iconst (pc := 30) C dX3_canArrive_30 (v := 0) rfl ?_
    exact j_zreturn (pc := 31) C rfl dX3_canArrive_31 ⟨Nat.zero_le _, Nat.zero_le _⟩
  · refine j_iload_n (pc := 8) C dX3_canArrive_8 rfl ?_
    refine j_callSi (pc := 9) C rfl dX3_canArrive_9 ls_X3_114 rfl (Nat.le_of_ble_eq_true rfl) (Nat.le_of_ble_eq_true rfl) (by decide) (Or.inl rfl) ⟨Nat.le_refl _, Nat.le_refl _⟩ (fun l hl o ho => sp_X3_isLength hl ho) (fun v4 M3 => ?_)
    refine j_if_eq (pc := 12) C dX3_canArrive_12 (tgt := 30) (by decide) (fun hc8 => ?_) (fun hc8 => ?_)
    · refine j_iconst (pc := 30) C dX3_canArrive_30 (v := 0) rfl ?_
      exact j_zreturn (pc := 31) C rfl dX3_canArrive_31 ⟨Nat.zero_le _, Nat.zero_le _⟩
    · refine j_aload_n (pc := 15) C dX3_canArrive_15 rfl ?_
      refine j_iload_n (pc := 16) C dX3_canArrive_16 rfl ?_
      refine j_iconst (pc := 17) C dX3_canArrive_17 (v := 0) rfl ?_
      refine j_callSi (pc := 18) C rfl dX3_canArrive_18 ls_X3_48 rfl (Nat.le_of_ble_eq_true rfl) (Nat.le_of_ble_eq_true rfl) (by decide) (Or.inl rfl) ⟨Nat.le_refl _, Nat.le_refl _⟩ (fun l hl o ho => sp_X3_of hl ho) (fun v6 M5 => ?_)
      refine j_bipush (pc := 21) C dX3_canArrive_21 (v := 6) rfl ?_
      refine j_icmp_ge (pc := 23) C dX3_canArrive_23 (tgt := 30) (by decide) (fun hc7 => ?_) (fun hc7 => ?_)
      · refine j_iconst (pc := 30) C dX3_canArrive_30 (v := 0) rfl ?_
        exact j_zreturn (pc := 31) C rfl dX3_canArrive_31 ⟨Nat.zero_le _, Nat.zero_le _⟩
      · refine j_iconst (pc := 26) C dX3_canArrive_26 (v := 1) rfl ?_
        refine j_goto (pc := 27) C dX3_canArrive_27 (tgt := 31) (by decide) ?_
        exact j_zreturn (pc := 31) C rfl dX3_canArrive_31 ⟨Nat.zero_le _, Nat.zero_le _⟩
theorem sp_X3_canArrive {l : Launch} {z : Sh9} {N : Nv9} {a0 : Nat} {a1 : Int32} {a2 : Int32} {M : Mem9} {o : Out9 × Mem9} (hl : l.stackTraces = false) (h : f_X3_canArrive z a0 a1 a2 M = some o) : Sp9 l z N yX3_canArrive (Cond.code yX3_canArrive cX3_canArrive 3 (some .boolean)) 2 [.ref a0, .int a1, .int a2] M (co9 o.1) o :=
  sp9_of (rk := 2) (own := RX3) (by decide +kernel) rfl (Or.inr (Or.inr (Or.inl ⟨rfl, rfl⟩))) hl (Nat.le_of_ble_eq_true rfl) (fun X C => t_X3_canArrive C a0 a1 a2 M) h
def f_X3_copyState_b3 (z : Sh9) (r3 : Nat → Int32 → Nat → Int32 → Int32 → Mem9 → Re9) (x0 : Nat) (x1 : Int32) (x2 : Nat) (x3 : Int32) (x4 : Int32) (M : Mem9) : Re9 :=
  (if (121 : Int32) ≤ x4 then (rv9 M) else ((ld9 z M 10 x0 (x1 + x4)).bind fun v1 => ((st9 z M x2 (x3 + x4) v1).bind fun M2 => (r3 x0 x1 x2 x3 (x4 + (1 : Int32)) M2))))
set_option maxRecDepth 20000 in
set_option maxHeartbeats 4000000 in
theorem t_X3_copyState_b3 {z : Sh9} {N : Nv9} {X : Cx9} {out : Out9 × Mem9} (C : OK9 z N X out 5 (co9 out.1) cX3_copyState RX3 0 0 []) {r3 : Nat → Int32 → Nat → Int32 → Int32 → Mem9 → Re9} (h3 : ∀ (x0 : Nat) (x1 : Int32) (x2 : Nat) (x3 : Int32) (x4 : Int32) (M : Mem9), J9 z N X out 5 3 [(0, .ref x0), (1, .int x1), (2, .ref x2), (3, .int x3), (4, .int x4)] [] M (0, 0) (r3 x0 x1 x2 x3 x4 M)) (x0 : Nat) (x1 : Int32) (x2 : Nat) (x3 : Int32) (x4 : Int32) (M : Mem9) : J9 z N X out 5 3 [(0, .ref x0), (1, .int x1), (2, .ref x2), (3, .int x3), (4, .int x4)] [] M (0, 0) (f_X3_copyState_b3 z r3 x0 x1 x2 x3 x4 M) := by
  refine j_iload (pc := 3) C dX3_copyState_3 rfl ?_
  refine j_bipush (pc := 5) C dX3_copyState_5 (v := 121) rfl ?_
  refine j_icmp_ge (pc := 7) C dX3_copyState_7 (tgt := 28) (by decide) (fun hc3 => ?_) (fun hc3 => ?_)
  · exact j_return (pc := 28) C rfl dX3_copyState_28 ⟨Nat.zero_le _, Nat.zero_le _⟩
  · refine j_aload_n (pc := 10) C dX3_copyState_10 rfl ?_
    refine j_iload_n (pc := 11) C dX3_copyState_11 rfl ?_
    refine j_iload (pc := 12) C dX3_copyState_12 rfl ?_
    refine j_iadd (pc := 14) C dX3_copyState_14 ?_
    refine j_aload_n (pc := 15) C dX3_copyState_15 rfl ?_
    refine j_iload_n (pc := 16) C dX3_copyState_16 rfl ?_
    refine j_iload (pc := 17) C dX3_copyState_17 rfl ?_
    refine j_iadd (pc := 19) C dX3_copyState_19 ?_
    refine j_iaload (pc := 20) C dX3_copyState_20 (fun v1 => ?_)
    refine j_iastore (pc := 21) C dX3_copyState_21 (fun M2 => ?_)
    refine j_iinc (pc := 22) C dX3_copyState_22 rfl (v := (x4 + (1 : Int32))) rfl (Nat.le_of_ble_eq_true rfl) (ls' := [(4, .int (x4 + (1 : Int32))), (0, .ref x0), (1, .int x1), (2, .ref x2), (3, .int x3)]) rfl ?_
    refine j_goto (pc := 25) C dX3_copyState_25 (tgt := 3) (by decide) ?_
    refine j_loc [1, 2, 3, 4, 0] rfl ?_
    exact h3 x0 x1 x2 x3 (x4 + (1 : Int32)) M2
theorem t_X3_copyState_l3 {z : Sh9} {N : Nv9} {X : Cx9} {out : Out9 × Mem9} (C : OK9 z N X out 5 (co9 out.1) cX3_copyState RX3 0 0 [])  : ∀ (n : Nat) (x0 : Nat) (x1 : Int32) (x2 : Nat) (x3 : Int32) (x4 : Int32) (M : Mem9), J9 z N X out 5 3 [(0, .ref x0), (1, .int x1), (2, .ref x2), (3, .int x3), (4, .int x4)] [] M (0, 0) (fx9 (fun _ _ _ _ _ _ => none) (f_X3_copyState_b3 z ) n x0 x1 x2 x3 x4 M) := by
  intro n
  induction n with
  | zero => intro x0 x1 x2 x3 x4 M; exact j_none
  | succ n ih => intro x0 x1 x2 x3 x4 M; exact t_X3_copyState_b3 C  ih x0 x1 x2 x3 x4 M
def f_X3_copyState (z : Sh9) (a0 : Nat) (a1 : Int32) (a2 : Nat) (a3 : Int32) (M : Mem9) : Re9 :=
  (fx9 (fun _ _ _ _ _ _ => none) (f_X3_copyState_b3 z ) FU9 a0 a1 a2 a3 (0 : Int32) M)
set_option maxRecDepth 20000 in
set_option maxHeartbeats 4000000 in
theorem t_X3_copyState {z : Sh9} {N : Nv9} {X : Cx9} {out : Out9 × Mem9} (C : OK9 z N X out 5 (co9 out.1) cX3_copyState RX3 0 0 []) (a0 : Nat) (a1 : Int32) (a2 : Nat) (a3 : Int32) (M : Mem9) : J9 z N X out 5 0 [(0, .ref a0), (1, .int a1), (2, .ref a2), (3, .int a3)] [] M (0, 0) (f_X3_copyState z a0 a1 a2 a3 M) := by
  refine j_iconst (pc := 0) C dX3_copyState_0 (v := 0) rfl ?_
  refine j_istore (pc := 1) C dX3_copyState_1 (Nat.le_of_ble_eq_true rfl) (ls' := [(4, .int (0 : Int32)), (0, .ref a0), (1, .int a1), (2, .ref a2), (3, .int a3)]) rfl ?_
  refine j_loc [1, 2, 3, 4, 0] rfl ?_
  exact t_X3_copyState_l3 C  FU9 a0 a1 a2 a3 (0 : Int32) M
theorem sp_X3_copyState {l : Launch} {z : Sh9} {N : Nv9} {a0 : Nat} {a1 : Int32} {a2 : Nat} {a3 : Int32} {M : Mem9} {o : Out9 × Mem9} (hl : l.stackTraces = false) (h : f_X3_copyState z a0 a1 a2 a3 M = some o) : Sp9 l z N yX3_copyState (Cond.code yX3_copyState cX3_copyState 5 none) 0 [.ref a0, .int a1, .ref a2, .int a3] M (co9 o.1) o :=
  sp9_of (rk := 0) (own := RX3) (by decide +kernel) rfl (Or.inl ⟨rfl, rfl⟩) hl (Nat.le_of_ble_eq_true rfl) (fun X C => t_X3_copyState C a0 a1 a2 a3 M) h
def f_X3_remember_b49 (z : Sh9)  (x0 : Nat) (M : Mem9) : Re9 :=
  ((rf9 z x0 3 2).bind fun v3 => ((rf9 z x0 3 4).bind fun v4 => ((gf9 z M x0 3 6).bind fun v5 => (bv9 (f_X3_copyState z v3 (0 : Int32) v4 ((121 : Int32) * v5) M) fun M6 => ((gf9 z M6 x0 3 6).bind fun v7 => ((pf9 z M6 x0 3 6 (v7 + (1 : Int32))).bind fun M8 => (rv9 M8)))))))
set_option maxRecDepth 20000 in
set_option maxHeartbeats 4000000 in
theorem t_X3_remember_b49 {z : Sh9} {N : Nv9} {X : Cx9} {out : Out9 × Mem9} (C : OK9 z N X out 2 (co9 out.1) cX3_remember RX3 1 0 [])  (x0 : Nat) (M : Mem9) : J9 z N X out 2 49 [(0, .ref x0)] [] M (0, 0) (f_X3_remember_b49 z  x0 M) := by
  refine j_aload_n (pc := 49) C dX3_remember_49 rfl ?_
  refine j_getR (pc := 50) C dX3_remember_50 fl_X3_13 fr_X3_3 (fun v3 => ?_)
  refine j_iconst (pc := 53) C dX3_remember_53 (v := 0) rfl ?_
  refine j_aload_n (pc := 54) C dX3_remember_54 rfl ?_
  refine j_getR (pc := 55) C dX3_remember_55 fl_X3_19 fr_X3_5 (fun v4 => ?_)
  refine j_bipush (pc := 58) C dX3_remember_58 (v := 121) rfl ?_
  refine j_aload_n (pc := 60) C dX3_remember_60 rfl ?_
  refine j_getI (pc := 61) C dX3_remember_61 fl_X3_191 fi_X3_6 (fun v5 => ?_)
  refine j_imul (pc := 64) C dX3_remember_64 ?_
  refine j_callSv (pc := 65) C rfl dX3_remember_65 ls_X3_187 rfl (Nat.le_of_ble_eq_true rfl) (Nat.le_of_ble_eq_true rfl) (by decide) (Or.inl rfl) ⟨Nat.le_refl _, Nat.le_refl _⟩ (fun l hl o ho => sp_X3_copyState hl ho) (fun M6 => ?_)
  refine j_aload_n (pc := 68) C dX3_remember_68 rfl ?_
  refine j_dup (pc := 69) C dX3_remember_69 rfl ?_
  refine j_getI (pc := 70) C dX3_remember_70 fl_X3_191 fi_X3_6 (fun v7 => ?_)
  refine j_iconst (pc := 73) C dX3_remember_73 (v := 1) rfl ?_
  refine j_iadd (pc := 74) C dX3_remember_74 ?_
  refine j_putI (pc := 75) C dX3_remember_75 fl_X3_191 fi_X3_6 rfl rfl (fun M8 => ?_)
  exact j_return (pc := 78) C rfl dX3_remember_78 ⟨Nat.zero_le _, Nat.zero_le _⟩
def f_X3_remember_b11 (z : Sh9) (r11 : Nat → Int32 → Mem9 → Re9) (x0 : Nat) (x1 : Int32) (M : Mem9) : Re9 :=
  (if (1573 : Int32) ≤ x1 then ((gf9 z M x0 3 6).bind fun v9 => ((pf9 z M x0 3 6 (v9 - (1 : Int32))).bind fun M10 => (f_X3_remember_b49 z  x0 M10))) else ((rf9 z x0 3 4).bind fun v11 => ((rf9 z x0 3 4).bind fun v12 => ((ld9 z M 10 v12 (x1 + (121 : Int32))).bind fun v13 => ((st9 z M v11 x1 v13).bind fun M14 => (r11 x0 (x1 + (1 : Int32)) M14))))))
set_option maxRecDepth 20000 in
set_option maxHeartbeats 4000000 in
theorem t_X3_remember_b11 {z : Sh9} {N : Nv9} {X : Cx9} {out : Out9 × Mem9} (C : OK9 z N X out 2 (co9 out.1) cX3_remember RX3 1 0 []) {r11 : Nat → Int32 → Mem9 → Re9} (h11 : ∀ (x0 : Nat) (x1 : Int32) (M : Mem9), J9 z N X out 2 11 [(0, .ref x0), (1, .int x1)] [] M (0, 0) (r11 x0 x1 M)) (x0 : Nat) (x1 : Int32) (M : Mem9) : J9 z N X out 2 11 [(0, .ref x0), (1, .int x1)] [] M (0, 0) (f_X3_remember_b11 z r11 x0 x1 M) := by
  refine j_iload_n (pc := 11) C dX3_remember_11 rfl ?_
  refine j_sipush (pc := 12) C dX3_remember_12 (v := 1573) rfl ?_
  refine j_icmp_ge (pc := 15) C dX3_remember_15 (tgt := 39) (by decide) (fun hc15 => ?_) (fun hc15 => ?_)
  · refine j_aload_n (pc := 39) C dX3_remember_39 rfl ?_
    refine j_dup (pc := 40) C dX3_remember_40 rfl ?_
    refine j_getI (pc := 41) C dX3_remember_41 fl_X3_191 fi_X3_6 (fun v9 => ?_)
    refine j_iconst (pc := 44) C dX3_remember_44 (v := 1) rfl ?_
    refine j_isub (pc := 45) C dX3_remember_45 ?_
    refine j_putI (pc := 46) C dX3_remember_46 fl_X3_191 fi_X3_6 rfl rfl (fun M10 => ?_)
    refine j_loc [0] rfl ?_
    exact t_X3_remember_b49 C  x0 M10
  · refine j_aload_n (pc := 18) C dX3_remember_18 rfl ?_
    refine j_getR (pc := 19) C dX3_remember_19 fl_X3_19 fr_X3_5 (fun v11 => ?_)
    refine j_iload_n (pc := 22) C dX3_remember_22 rfl ?_
    refine j_aload_n (pc := 23) C dX3_remember_23 rfl ?_
    refine j_getR (pc := 24) C dX3_remember_24 fl_X3_19 fr_X3_5 (fun v12 => ?_)
    refine j_iload_n (pc := 27) C dX3_remember_27 rfl ?_
    refine j_bipush (pc := 28) C dX3_remember_28 (v := 121) rfl ?_
    refine j_iadd (pc := 30) C dX3_remember_30 ?_
    refine j_iaload (pc := 31) C dX3_remember_31 (fun v13 => ?_)
    refine j_iastore (pc := 32) C dX3_remember_32 (fun M14 => ?_)
    refine j_iinc (pc := 33) C dX3_remember_33 rfl (v := (x1 + (1 : Int32))) rfl (Nat.le_of_ble_eq_true rfl) (ls' := [(1, .int (x1 + (1 : Int32))), (0, .ref x0)]) rfl ?_
    refine j_goto (pc := 36) C dX3_remember_36 (tgt := 11) (by decide) ?_
    refine j_loc [1, 0] rfl ?_
    exact h11 x0 (x1 + (1 : Int32)) M14
theorem t_X3_remember_l11 {z : Sh9} {N : Nv9} {X : Cx9} {out : Out9 × Mem9} (C : OK9 z N X out 2 (co9 out.1) cX3_remember RX3 1 0 [])  : ∀ (n : Nat) (x0 : Nat) (x1 : Int32) (M : Mem9), J9 z N X out 2 11 [(0, .ref x0), (1, .int x1)] [] M (0, 0) (fx9 (fun _ _ _ => none) (f_X3_remember_b11 z ) n x0 x1 M) := by
  intro n
  induction n with
  | zero => intro x0 x1 M; exact j_none
  | succ n ih => intro x0 x1 M; exact t_X3_remember_b11 C  ih x0 x1 M
def f_X3_remember (z : Sh9) (a0 : Nat) (M : Mem9) : Re9 :=
  ((gf9 z M a0 3 6).bind fun v1 => (if v1 = (14 : Int32) then (fx9 (fun _ _ _ => none) (f_X3_remember_b11 z ) FU9 a0 (0 : Int32) M) else (f_X3_remember_b49 z  a0 M)))
set_option maxRecDepth 20000 in
set_option maxHeartbeats 4000000 in
theorem t_X3_remember {z : Sh9} {N : Nv9} {X : Cx9} {out : Out9 × Mem9} (C : OK9 z N X out 2 (co9 out.1) cX3_remember RX3 1 0 []) (a0 : Nat) (M : Mem9) : J9 z N X out 2 0 [(0, .ref a0)] [] M (0, 0) (f_X3_remember z a0 M) := by
  refine j_aload_n (pc := 0) C dX3_remember_0 rfl ?_
  refine j_getI (pc := 1) C dX3_remember_1 fl_X3_191 fi_X3_6 (fun v1 => ?_)
  refine j_bipush (pc := 4) C dX3_remember_4 (v := 14) rfl ?_
  refine j_icmp_ne (pc := 6) C dX3_remember_6 (tgt := 49) (by decide) (fun hc2 => ?_) (fun hc2 => ?_)
  · exact t_X3_remember_b49 C  a0 M
  · refine j_iconst (pc := 9) C dX3_remember_9 (v := 0) rfl ?_
    refine j_istore_n (pc := 10) C dX3_remember_10 (Nat.le_of_ble_eq_true rfl) (ls' := [(1, .int (0 : Int32)), (0, .ref a0)]) rfl ?_
    refine j_loc [1, 0] rfl ?_
    exact t_X3_remember_l11 C  FU9 a0 (0 : Int32) M
theorem sp_X3_remember {l : Launch} {z : Sh9} {N : Nv9} {a0 : Nat} {M : Mem9} {o : Out9 × Mem9} (hl : l.stackTraces = false) (h : f_X3_remember z a0 M = some o) : Sp9 l z N yX3_remember (Cond.code yX3_remember cX3_remember 2 none) 1 [.ref a0] M (co9 o.1) o :=
  sp9_of (rk := 0) (own := RX3) (by decide +kernel) rfl (Or.inl ⟨rfl, rfl⟩) hl (Nat.le_of_ble_eq_true rfl) (fun X C => t_X3_remember C a0 M) h
def f_X3_arrive_b44 (z : Sh9)  (x0 : Nat) (x1 : Int32) (x2 : Int32) (x3 : Int32) (x4 : Int32) (s0 : Int32) (s1 : Nat) (M : Mem9) : Re9 :=
  (bi9 (iv9 z s1 3 (f_X3_refused z s1 s0 M)) fun v13 M12 => (if v13 = 0 then (bv9 (iv9 z x0 3 (f_X3_remember z x0  M12)) fun M14 => ((rf9 z x0 3 2).bind fun v15 => (bi9 (f_X3_arriveOn z v15 x1 x2 x3 x4 M14) fun v17 M16 => (ri9 v17 M16)))) else (ri9 (0 : Int32) M12)))
set_option maxRecDepth 20000 in
set_option maxHeartbeats 4000000 in
theorem t_X3_arrive_b44 {z : Sh9} {N : Nv9} {X : Cx9} {out : Out9 × Mem9} (C : OK9 z N X out 5 (co9 out.1) cX3_arrive RX3 4 1 [])  (x0 : Nat) (x1 : Int32) (x2 : Int32) (x3 : Int32) (x4 : Int32) (s0 : Int32) (s1 : Nat) (M : Mem9) : J9 z N X out 5 44 [(0, .ref x0), (1, .int x1), (2, .int x2), (3, .int x3), (4, .int x4)] [.int s0, .ref s1] M (0, 0) (f_X3_arrive_b44 z  x0 x1 x2 x3 x4 s0 s1 M) := by
  refine j_callVi (pc := 44) C rfl dX3_arrive_44 lv_X3_130 rfl (Nat.le_of_ble_eq_true rfl) (Nat.le_of_ble_eq_true rfl) (by decide) (Or.inl rfl) ⟨Nat.le_refl _, Nat.le_refl _⟩ (fun l hl o ho => sp_X3_refused hl ho) (fun v13 M12 => ?_)
  refine j_if_eq (pc := 47) C dX3_arrive_47 (tgt := 52) (by decide) (fun hc18 => ?_) (fun hc18 => ?_)
  · refine j_aload_n (pc := 52) C dX3_arrive_52 rfl ?_
    refine j_callVv (pc := 53) C rfl dX3_arrive_53 lv_X3_204 rfl (Nat.le_of_ble_eq_true rfl) (Nat.le_of_ble_eq_true rfl) (by decide) (Or.inl rfl) ⟨Nat.le_refl _, Nat.le_refl _⟩ (fun l hl o ho => sp_X3_remember hl ho) (fun M14 => ?_)
    refine j_aload_n (pc := 56) C dX3_arrive_56 rfl ?_
    refine j_getR (pc := 57) C dX3_arrive_57 fl_X3_13 fr_X3_3 (fun v15 => ?_)
    refine j_iload_n (pc := 60) C dX3_arrive_60 rfl ?_
    refine j_iload_n (pc := 61) C dX3_arrive_61 rfl ?_
    refine j_iload_n (pc := 62) C dX3_arrive_62 rfl ?_
    refine j_iload (pc := 63) C dX3_arrive_63 rfl ?_
    refine j_callSi (pc := 65) C rfl dX3_arrive_65 ls_X3_163 rfl (Nat.le_of_ble_eq_true rfl) (Nat.le_of_ble_eq_true rfl) (by decide) (Or.inl rfl) ⟨Nat.le_refl _, Nat.le_refl _⟩ (fun l hl o ho => sp_X3_arriveOn hl ho) (fun v17 M16 => ?_)
    exact j_ireturn (pc := 68) C rfl dX3_arrive_68 ⟨Nat.zero_le _, Nat.zero_le _⟩
  · refine j_iconst (pc := 50) C dX3_arrive_50 (v := 0) rfl ?_
    exact j_ireturn (pc := 51) C rfl dX3_arrive_51 ⟨Nat.zero_le _, Nat.zero_le _⟩
def f_X3_arrive (z : Sh9) (a0 : Nat) (a1 : Int32) (a2 : Int32) (a3 : Int32) (a4 : Int32) (M : Mem9) : Re9 :=
  ((rf9 z a0 3 2).bind fun v1 => (bi9 (f_X3_isLane z v1 a1 M) fun v3 M2 => (if v3 = 0 then (f_X3_arrive_b44 z  a0 a1 a2 a3 a4 (1 : Int32) a0 M2) else (bi9 (f_X3_isLength z a2 M2) fun v5 M4 => (if v5 = 0 then (f_X3_arrive_b44 z  a0 a1 a2 a3 a4 (2 : Int32) a0 M4) else ((rf9 z a0 3 2).bind fun v6 => (bi9 (f_X3_canArrive z v6 a1 a2 M4) fun v8 M7 => (if v8 = 0 then (f_X3_arrive_b44 z  a0 a1 a2 a3 a4 (3 : Int32) a0 M7) else (f_X3_arrive_b44 z  a0 a1 a2 a3 a4 (0 : Int32) a0 M7)))))))))
set_option maxRecDepth 20000 in
set_option maxHeartbeats 4000000 in
theorem t_X3_arrive {z : Sh9} {N : Nv9} {X : Cx9} {out : Out9 × Mem9} (C : OK9 z N X out 5 (co9 out.1) cX3_arrive RX3 4 1 []) (a0 : Nat) (a1 : Int32) (a2 : Int32) (a3 : Int32) (a4 : Int32) (M : Mem9) : J9 z N X out 5 0 [(0, .ref a0), (1, .int a1), (2, .int a2), (3, .int a3), (4, .int a4)] [] M (0, 0) (f_X3_arrive z a0 a1 a2 a3 a4 M) := by
  refine j_aload_n (pc := 0) C dX3_arrive_0 rfl ?_
  refine j_aload_n (pc := 1) C dX3_arrive_1 rfl ?_
  refine j_getR (pc := 2) C dX3_arrive_2 fl_X3_13 fr_X3_3 (fun v1 => ?_)
  refine j_iload_n (pc := 5) C dX3_arrive_5 rfl ?_
  refine j_callSi (pc := 6) C rfl dX3_arrive_6 ls_X3_44 rfl (Nat.le_of_ble_eq_true rfl) (Nat.le_of_ble_eq_true rfl) (by decide) (Or.inl rfl) ⟨Nat.le_refl _, Nat.le_refl _⟩ (fun l hl o ho => sp_X3_isLane hl ho) (fun v3 M2 => ?_)
  refine j_if_ne (pc := 9) C dX3_arrive_9 (tgt := 16) (by decide) (fun hc11 => ?_) (fun hc11 => ?_)
  · refine j_iload_n (pc := 16) C dX3_arrive_16 rfl ?_
    refine j_callSi (pc := 17) C rfl dX3_arrive_17 ls_X3_114 rfl (Nat.le_of_ble_eq_true rfl) (Nat.le_of_ble_eq_true rfl) (by decide) (Or.inl rfl) ⟨Nat.le_refl _, Nat.le_refl _⟩ (fun l hl o ho => sp_X3_isLength hl ho) (fun v5 M4 => ?_)
    refine j_if_ne (pc := 20) C dX3_arrive_20 (tgt := 27) (by decide) (fun hc10 => ?_) (fun hc10 => ?_)
    · refine j_aload_n (pc := 27) C dX3_arrive_27 rfl ?_
      refine j_getR (pc := 28) C dX3_arrive_28 fl_X3_13 fr_X3_3 (fun v6 => ?_)
      refine j_iload_n (pc := 31) C dX3_arrive_31 rfl ?_
      refine j_iload_n (pc := 32) C dX3_arrive_32 rfl ?_
      refine j_callSi (pc := 33) C rfl dX3_arrive_33 ls_X3_160 rfl (Nat.le_of_ble_eq_true rfl) (Nat.le_of_ble_eq_true rfl) (by decide) (Or.inl rfl) ⟨Nat.le_refl _, Nat.le_refl _⟩ (fun l hl o ho => sp_X3_canArrive hl ho) (fun v8 M7 => ?_)
      refine j_if_eq (pc := 36) C dX3_arrive_36 (tgt := 43) (by decide) (fun hc9 => ?_) (fun hc9 => ?_)
      · refine j_iconst (pc := 43) C dX3_arrive_43 (v := 3) rfl ?_
        exact t_X3_arrive_b44 C  a0 a1 a2 a3 a4 (3 : Int32) a0 M7
      · refine j_iconst (pc := 39) C dX3_arrive_39 (v := 0) rfl ?_
        refine j_goto (pc := 40) C dX3_arrive_40 (tgt := 44) (by decide) ?_
        exact t_X3_arrive_b44 C  a0 a1 a2 a3 a4 (0 : Int32) a0 M7
    · refine j_iconst (pc := 23) C dX3_arrive_23 (v := 2) rfl ?_
      refine j_goto (pc := 24) C dX3_arrive_24 (tgt := 44) (by decide) ?_
      exact t_X3_arrive_b44 C  a0 a1 a2 a3 a4 (2 : Int32) a0 M4
  · refine j_iconst (pc := 12) C dX3_arrive_12 (v := 1) rfl ?_
    refine j_goto (pc := 13) C dX3_arrive_13 (tgt := 44) (by decide) ?_
    exact t_X3_arrive_b44 C  a0 a1 a2 a3 a4 (1 : Int32) a0 M2
theorem sp_X3_arrive {l : Launch} {z : Sh9} {N : Nv9} {a0 : Nat} {a1 : Int32} {a2 : Int32} {a3 : Int32} {a4 : Int32} {M : Mem9} {o : Out9 × Mem9} (hl : l.stackTraces = false) (h : f_X3_arrive z a0 a1 a2 a3 a4 M = some o) : Sp9 l z N yX3_arrive (Cond.code yX3_arrive cX3_arrive 5 (some .int)) 4 [.ref a0, .int a1, .int a2, .int a3, .int a4] M (co9 o.1) o :=
  sp9_of (rk := 1) (own := RX3) (by decide +kernel) rfl (Or.inr (Or.inl ⟨rfl, rfl⟩)) hl (Nat.le_of_ble_eq_true rfl) (fun X C => t_X3_arrive C a0 a1 a2 a3 a4 M) h
def f_X3_checked_b2 (z : Sh9) (r2 : Nat → Int32 → Int32 → Mem9 → Re9) (x0 : Nat) (x1 : Int32) (x2 : Int32) (M : Mem9) : Re9 :=
  (bi9 (f_X3_of z x0 x1 (0 : Int32) M) fun v2 M1 => (if v2 ≤ x2 then (ri9 (-1 : Int32) M1) else (bi9 (f_X3_told z x0 x1 x2 (4 : Int32) M1) fun v4 M3 => (if v4 = 0 then (bi9 (f_X3_told z x0 x1 x2 (1 : Int32) M3) fun v6 M5 => (if v6 = (19 : Int32) then (ri9 x2 M5) else (r2 x0 x1 (x2 + (1 : Int32)) M5))) else (r2 x0 x1 (x2 + (1 : Int32)) M3)))))
set_option maxRecDepth 20000 in
set_option maxHeartbeats 4000000 in
theorem t_X3_checked_b2 {z : Sh9} {N : Nv9} {X : Cx9} {out : Out9 × Mem9} (C : OK9 z N X out 3 (co9 out.1) cX3_checked RX3 2 1 []) {r2 : Nat → Int32 → Int32 → Mem9 → Re9} (h2 : ∀ (x0 : Nat) (x1 : Int32) (x2 : Int32) (M : Mem9), J9 z N X out 3 2 [(0, .ref x0), (1, .int x1), (2, .int x2)] [] M (0, 0) (r2 x0 x1 x2 M)) (x0 : Nat) (x1 : Int32) (x2 : Int32) (M : Mem9) : J9 z N X out 3 2 [(0, .ref x0), (1, .int x1), (2, .int x2)] [] M (0, 0) (f_X3_checked_b2 z r2 x0 x1 x2 M) := by
  refine j_iload_n (pc := 2) C dX3_checked_2 rfl ?_
  refine j_aload_n (pc := 3) C dX3_checked_3 rfl ?_
  refine j_iload_n (pc := 4) C dX3_checked_4 rfl ?_
  refine j_iconst (pc := 5) C dX3_checked_5 (v := 0) rfl ?_
  refine j_callSi (pc := 6) C rfl dX3_checked_6 ls_X3_48 rfl (Nat.le_of_ble_eq_true rfl) (Nat.le_of_ble_eq_true rfl) (by decide) (Or.inl rfl) ⟨Nat.le_refl _, Nat.le_refl _⟩ (fun l hl o ho => sp_X3_of hl ho) (fun v2 M1 => ?_)
  refine j_icmp_ge (pc := 9) C dX3_checked_9 (tgt := 42) (by decide) (fun hc9 => ?_) (fun hc9 => ?_)
  · refine j_iconst (pc := 42) C dX3_checked_42 (v := -1) rfl ?_
    exact j_ireturn (pc := 43) C rfl dX3_checked_43 ⟨Nat.zero_le _, Nat.zero_le _⟩
  · refine j_aload_n (pc := 12) C dX3_checked_12 rfl ?_
    refine j_iload_n (pc := 13) C dX3_checked_13 rfl ?_
    refine j_iload_n (pc := 14) C dX3_checked_14 rfl ?_
    refine j_iconst (pc := 15) C dX3_checked_15 (v := 4) rfl ?_
    refine j_callSi (pc := 16) C rfl dX3_checked_16 ls_X3_56 rfl (Nat.le_of_ble_eq_true rfl) (Nat.le_of_ble_eq_true rfl) (by decide) (Or.inl rfl) ⟨Nat.le_refl _, Nat.le_refl _⟩ (fun l hl o ho => sp_X3_told hl ho) (fun v4 M3 => ?_)
    refine j_if_ne (pc := 19) C dX3_checked_19 (tgt := 36) (by decide) (fun hc8 => ?_) (fun hc8 => ?_)
    · refine j_iinc (pc := 36) C dX3_checked_36 rfl (v := (x2 + (1 : Int32))) rfl (Nat.le_of_ble_eq_true rfl) (ls' := [(2, .int (x2 + (1 : Int32))), (0, .ref x0), (1, .int x1)]) rfl ?_
      refine j_goto (pc := 39) C dX3_checked_39 (tgt := 2) (by decide) ?_
      refine j_loc [1, 2, 0] rfl ?_
      exact h2 x0 x1 (x2 + (1 : Int32)) M3
    · refine j_aload_n (pc := 22) C dX3_checked_22 rfl ?_
      refine j_iload_n (pc := 23) C dX3_checked_23 rfl ?_
      refine j_iload_n (pc := 24) C dX3_checked_24 rfl ?_
      refine j_iconst (pc := 25) C dX3_checked_25 (v := 1) rfl ?_
      refine j_callSi (pc := 26) C rfl dX3_checked_26 ls_X3_56 rfl (Nat.le_of_ble_eq_true rfl) (Nat.le_of_ble_eq_true rfl) (by decide) (Or.inl rfl) ⟨Nat.le_refl _, Nat.le_refl _⟩ (fun l hl o ho => sp_X3_told hl ho) (fun v6 M5 => ?_)
      refine j_bipush (pc := 29) C dX3_checked_29 (v := 19) rfl ?_
      refine j_icmp_ne (pc := 31) C dX3_checked_31 (tgt := 36) (by decide) (fun hc7 => ?_) (fun hc7 => ?_)
      · refine j_iinc (pc := 36) C dX3_checked_36 rfl (v := (x2 + (1 : Int32))) rfl (Nat.le_of_ble_eq_true rfl) (ls' := [(2, .int (x2 + (1 : Int32))), (0, .ref x0), (1, .int x1)]) rfl ?_
        refine j_goto (pc := 39) C dX3_checked_39 (tgt := 2) (by decide) ?_
        refine j_loc [1, 2, 0] rfl ?_
        exact h2 x0 x1 (x2 + (1 : Int32)) M5
      · refine j_iload_n (pc := 34) C dX3_checked_34 rfl ?_
        exact j_ireturn (pc := 35) C rfl dX3_checked_35 ⟨Nat.zero_le _, Nat.zero_le _⟩
theorem t_X3_checked_l2 {z : Sh9} {N : Nv9} {X : Cx9} {out : Out9 × Mem9} (C : OK9 z N X out 3 (co9 out.1) cX3_checked RX3 2 1 [])  : ∀ (n : Nat) (x0 : Nat) (x1 : Int32) (x2 : Int32) (M : Mem9), J9 z N X out 3 2 [(0, .ref x0), (1, .int x1), (2, .int x2)] [] M (0, 0) (fx9 (fun _ _ _ _ => none) (f_X3_checked_b2 z ) n x0 x1 x2 M) := by
  intro n
  induction n with
  | zero => intro x0 x1 x2 M; exact j_none
  | succ n ih => intro x0 x1 x2 M; exact t_X3_checked_b2 C  ih x0 x1 x2 M
def f_X3_checked (z : Sh9) (a0 : Nat) (a1 : Int32) (M : Mem9) : Re9 :=
  (fx9 (fun _ _ _ _ => none) (f_X3_checked_b2 z ) FU9 a0 a1 (0 : Int32) M)
set_option maxRecDepth 20000 in
set_option maxHeartbeats 4000000 in
theorem t_X3_checked {z : Sh9} {N : Nv9} {X : Cx9} {out : Out9 × Mem9} (C : OK9 z N X out 3 (co9 out.1) cX3_checked RX3 2 1 []) (a0 : Nat) (a1 : Int32) (M : Mem9) : J9 z N X out 3 0 [(0, .ref a0), (1, .int a1)] [] M (0, 0) (f_X3_checked z a0 a1 M) := by
  refine j_iconst (pc := 0) C dX3_checked_0 (v := 0) rfl ?_
  refine j_istore_n (pc := 1) C dX3_checked_1 (Nat.le_of_ble_eq_true rfl) (ls' := [(2, .int (0 : Int32)), (0, .ref a0), (1, .int a1)]) rfl ?_
  refine j_loc [1, 2, 0] rfl ?_
  exact t_X3_checked_l2 C  FU9 a0 a1 (0 : Int32) M
theorem sp_X3_checked {l : Launch} {z : Sh9} {N : Nv9} {a0 : Nat} {a1 : Int32} {M : Mem9} {o : Out9 × Mem9} (hl : l.stackTraces = false) (h : f_X3_checked z a0 a1 M = some o) : Sp9 l z N yX3_checked (Cond.code yX3_checked cX3_checked 3 (some .int)) 2 [.ref a0, .int a1] M (co9 o.1) o :=
  sp9_of (rk := 1) (own := RX3) (by decide +kernel) rfl (Or.inr (Or.inl ⟨rfl, rfl⟩)) hl (Nat.le_of_ble_eq_true rfl) (fun X C => t_X3_checked C a0 a1 M) h
def f_X3_check_b142 (z : Sh9)  (s0 : Int32) (s1 : Int32) (s2 : Int32) (s3 : Nat) (M : Mem9) : Re9 :=
  ((st9 z M s3 s2 (s1 + s0)).bind fun M27 => (rv9 M27))
set_option maxRecDepth 20000 in
set_option maxHeartbeats 4000000 in
theorem t_X3_check_b142 {z : Sh9} {N : Nv9} {X : Cx9} {out : Out9 × Mem9} (C : OK9 z N X out 6 (co9 out.1) cX3_check RX3 3 0 [])  (s0 : Int32) (s1 : Int32) (s2 : Int32) (s3 : Nat) (M : Mem9) : J9 z N X out 6 142 [] [.int s0, .int s1, .int s2, .ref s3] M (0, 0) (f_X3_check_b142 z  s0 s1 s2 s3 M) := by
  refine j_iadd (pc := 142) C dX3_check_142 ?_
  refine j_iastore (pc := 143) C dX3_check_143 (fun M27 => ?_)
  exact j_return (pc := 144) C rfl dX3_check_144 ⟨Nat.zero_le _, Nat.zero_le _⟩
def f_X3_check_b88 (z : Sh9)  (x0 : Nat) (x1 : Int32) (x2 : Int32) (x4 : Int32) (x5 : Int32) (s0 : Int32) (s1 : Int32) (s2 : Int32) (s3 : Nat) (M : Mem9) : Re9 :=
  (bv9 (f_X3_lay z s3 s2 s1 s0 M) fun M15 => (if x5 = 0 then (rv9 M15) else (bi9 (f_X3_place z x2 (4 : Int32) M15) fun v17 M16 => (bv9 (f_X3_lay z x0 x1 v17 (1 : Int32) M16) fun M18 => (bi9 (f_X3_of z x0 x1 (3 : Int32) M18) fun v20 M19 => ((dv9 v20 (8 : Int32)).bind fun v21 => ((ld9 z M19 10 x0 (9 : Int32)).bind fun v22 => (bv9 (f_X3_lay z x0 x1 (2 : Int32) (v21 + v22) M19) fun M23 => ((ld9 z M23 10 x0 (6 : Int32)).bind fun v24 => (if x4 = 0 then (f_X3_check_b142 z  (0 : Int32) v24 (6 : Int32) x0 M23) else (f_X3_check_b142 z  (1 : Int32) v24 (6 : Int32) x0 M23)))))))))))
set_option maxRecDepth 20000 in
set_option maxHeartbeats 4000000 in
theorem t_X3_check_b88 {z : Sh9} {N : Nv9} {X : Cx9} {out : Out9 × Mem9} (C : OK9 z N X out 6 (co9 out.1) cX3_check RX3 3 0 [])  (x0 : Nat) (x1 : Int32) (x2 : Int32) (x4 : Int32) (x5 : Int32) (s0 : Int32) (s1 : Int32) (s2 : Int32) (s3 : Nat) (M : Mem9) : J9 z N X out 6 88 [(0, .ref x0), (1, .int x1), (2, .int x2), (4, .int x4), (5, .int x5)] [.int s0, .int s1, .int s2, .ref s3] M (0, 0) (f_X3_check_b88 z  x0 x1 x2 x4 x5 s0 s1 s2 s3 M) := by
  refine j_callSv (pc := 88) C rfl dX3_check_88 ls_X3_67 rfl (Nat.le_of_ble_eq_true rfl) (Nat.le_of_ble_eq_true rfl) (by decide) (Or.inl rfl) ⟨Nat.le_refl _, Nat.le_refl _⟩ (fun l hl o ho => sp_X3_lay hl ho) (fun M15 => ?_)
  refine j_iload (pc := 91) C dX3_check_91 rfl ?_
  refine j_if_eq (pc := 93) C dX3_check_93 (tgt := 144) (by decide) (fun hc26 => ?_) (fun hc26 => ?_)
  · exact j_return (pc := 144) C rfl dX3_check_144 ⟨Nat.zero_le _, Nat.zero_le _⟩
  · refine j_aload_n (pc := 96) C dX3_check_96 rfl ?_
    refine j_iload_n (pc := 97) C dX3_check_97 rfl ?_
    refine j_iload_n (pc := 98) C dX3_check_98 rfl ?_
    refine j_iconst (pc := 99) C dX3_check_99 (v := 4) rfl ?_
    refine j_callSi (pc := 100) C rfl dX3_check_100 ls_X3_52 rfl (Nat.le_of_ble_eq_true rfl) (Nat.le_of_ble_eq_true rfl) (by decide) (Or.inl rfl) ⟨Nat.le_refl _, Nat.le_refl _⟩ (fun l hl o ho => sp_X3_place hl ho) (fun v17 M16 => ?_)
    refine j_iconst (pc := 103) C dX3_check_103 (v := 1) rfl ?_
    refine j_callSv (pc := 104) C rfl dX3_check_104 ls_X3_67 rfl (Nat.le_of_ble_eq_true rfl) (Nat.le_of_ble_eq_true rfl) (by decide) (Or.inl rfl) ⟨Nat.le_refl _, Nat.le_refl _⟩ (fun l hl o ho => sp_X3_lay hl ho) (fun M18 => ?_)
    refine j_aload_n (pc := 107) C dX3_check_107 rfl ?_
    refine j_iload_n (pc := 108) C dX3_check_108 rfl ?_
    refine j_iconst (pc := 109) C dX3_check_109 (v := 2) rfl ?_
    refine j_aload_n (pc := 110) C dX3_check_110 rfl ?_
    refine j_iload_n (pc := 111) C dX3_check_111 rfl ?_
    refine j_iconst (pc := 112) C dX3_check_112 (v := 3) rfl ?_
    refine j_callSi (pc := 113) C rfl dX3_check_113 ls_X3_48 rfl (Nat.le_of_ble_eq_true rfl) (Nat.le_of_ble_eq_true rfl) (by decide) (Or.inl rfl) ⟨Nat.le_refl _, Nat.le_refl _⟩ (fun l hl o ho => sp_X3_of hl ho) (fun v20 M19 => ?_)
    refine j_bipush (pc := 116) C dX3_check_116 (v := 8) rfl ?_
    refine j_idiv (pc := 118) C dX3_check_118 (fun v21 => ?_)
    refine j_aload_n (pc := 119) C dX3_check_119 rfl ?_
    refine j_bipush (pc := 120) C dX3_check_120 (v := 9) rfl ?_
    refine j_iaload (pc := 122) C dX3_check_122 (fun v22 => ?_)
    refine j_iadd (pc := 123) C dX3_check_123 ?_
    refine j_callSv (pc := 124) C rfl dX3_check_124 ls_X3_67 rfl (Nat.le_of_ble_eq_true rfl) (Nat.le_of_ble_eq_true rfl) (by decide) (Or.inl rfl) ⟨Nat.le_refl _, Nat.le_refl _⟩ (fun l hl o ho => sp_X3_lay hl ho) (fun M23 => ?_)
    refine j_aload_n (pc := 127) C dX3_check_127 rfl ?_
    refine j_bipush (pc := 128) C dX3_check_128 (v := 6) rfl ?_
    refine j_dup2_11 (pc := 130) C dX3_check_130 rfl rfl ?_
    refine j_iaload (pc := 131) C dX3_check_131 (fun v24 => ?_)
    refine j_iload (pc := 132) C dX3_check_132 rfl ?_
    refine j_if_eq (pc := 134) C dX3_check_134 (tgt := 141) (by decide) (fun hc25 => ?_) (fun hc25 => ?_)
    · refine j_iconst (pc := 141) C dX3_check_141 (v := 0) rfl ?_
      refine j_loc [] rfl ?_
      exact t_X3_check_b142 C  (0 : Int32) v24 (6 : Int32) x0 M23
    · refine j_iconst (pc := 137) C dX3_check_137 (v := 1) rfl ?_
      refine j_goto (pc := 138) C dX3_check_138 (tgt := 142) (by decide) ?_
      refine j_loc [] rfl ?_
      exact t_X3_check_b142 C  (1 : Int32) v24 (6 : Int32) x0 M23
def f_X3_check_b72 (z : Sh9)  (x0 : Nat) (x1 : Int32) (x2 : Int32) (x3 : Int32) (x4 : Int32) (s0 : Int32) (M : Mem9) : Re9 :=
  (if s0 = 0 then (f_X3_check_b88 z  x0 x1 x2 x4 s0 x3 (6 : Int32) x1 x0 M) else (f_X3_check_b88 z  x0 x1 x2 x4 s0 (0 : Int32) (6 : Int32) x1 x0 M))
set_option maxRecDepth 20000 in
set_option maxHeartbeats 4000000 in
theorem t_X3_check_b72 {z : Sh9} {N : Nv9} {X : Cx9} {out : Out9 × Mem9} (C : OK9 z N X out 6 (co9 out.1) cX3_check RX3 3 0 [])  (x0 : Nat) (x1 : Int32) (x2 : Int32) (x3 : Int32) (x4 : Int32) (s0 : Int32) (M : Mem9) : J9 z N X out 6 72 [(0, .ref x0), (1, .int x1), (2, .int x2), (3, .int x3), (4, .int x4)] [.int s0] M (0, 0) (f_X3_check_b72 z  x0 x1 x2 x3 x4 s0 M) := by
  refine j_istore (pc := 72) C dX3_check_72 (Nat.le_of_ble_eq_true rfl) (ls' := [(5, .int s0), (0, .ref x0), (1, .int x1), (2, .int x2), (3, .int x3), (4, .int x4)]) rfl ?_
  refine j_aload_n (pc := 74) C dX3_check_74 rfl ?_
  refine j_iload_n (pc := 75) C dX3_check_75 rfl ?_
  refine j_bipush (pc := 76) C dX3_check_76 (v := 6) rfl ?_
  refine j_iload (pc := 78) C dX3_check_78 rfl ?_
  refine j_if_eq (pc := 80) C dX3_check_80 (tgt := 87) (by decide) (fun hc14 => ?_) (fun hc14 => ?_)
  · refine j_iload_n (pc := 87) C dX3_check_87 rfl ?_
    refine j_loc [1, 2, 3, 5, 0] rfl ?_
    exact t_X3_check_b88 C  x0 x1 x2 x4 s0 x3 (6 : Int32) x1 x0 M
  · refine j_iconst (pc := 83) C dX3_check_83 (v := 0) rfl ?_
    refine j_goto (pc := 84) C dX3_check_84 (tgt := 88) (by decide) ?_
    refine j_loc [1, 2, 3, 5, 0] rfl ?_
    exact t_X3_check_b88 C  x0 x1 x2 x4 s0 (0 : Int32) (6 : Int32) x1 x0 M
def f_X3_check_b62 (z : Sh9)  (x0 : Nat) (x1 : Int32) (x2 : Int32) (x3 : Int32) (x4 : Int32) (s0 : Int32) (s1 : Int32) (s2 : Nat) (s3 : Int32) (M : Mem9) : Re9 :=
  ((ld9 z M 10 s2 (s1 + s0)).bind fun v12 => (if s3 < v12 then (f_X3_check_b72 z  x0 x1 x2 x3 x4 (0 : Int32) M) else (f_X3_check_b72 z  x0 x1 x2 x3 x4 (1 : Int32) M)))
set_option maxRecDepth 20000 in
set_option maxHeartbeats 4000000 in
theorem t_X3_check_b62 {z : Sh9} {N : Nv9} {X : Cx9} {out : Out9 × Mem9} (C : OK9 z N X out 6 (co9 out.1) cX3_check RX3 3 0 [])  (x0 : Nat) (x1 : Int32) (x2 : Int32) (x3 : Int32) (x4 : Int32) (s0 : Int32) (s1 : Int32) (s2 : Nat) (s3 : Int32) (M : Mem9) : J9 z N X out 6 62 [(0, .ref x0), (1, .int x1), (2, .int x2), (3, .int x3), (4, .int x4)] [.int s0, .int s1, .ref s2, .int s3] M (0, 0) (f_X3_check_b62 z  x0 x1 x2 x3 x4 s0 s1 s2 s3 M) := by
  refine j_iadd (pc := 62) C dX3_check_62 ?_
  refine j_iaload (pc := 63) C dX3_check_63 (fun v12 => ?_)
  refine j_icmp_lt (pc := 64) C dX3_check_64 (tgt := 71) (by decide) (fun hc13 => ?_) (fun hc13 => ?_)
  · refine j_iconst (pc := 71) C dX3_check_71 (v := 0) rfl ?_
    exact t_X3_check_b72 C  x0 x1 x2 x3 x4 (0 : Int32) M
  · refine j_iconst (pc := 67) C dX3_check_67 (v := 1) rfl ?_
    refine j_goto (pc := 68) C dX3_check_68 (tgt := 72) (by decide) ?_
    exact t_X3_check_b72 C  x0 x1 x2 x3 x4 (1 : Int32) M
def f_X3_check_b46 (z : Sh9)  (x0 : Nat) (x1 : Int32) (x2 : Int32) (x3 : Int32) (s0 : Int32) (M : Mem9) : Re9 :=
  (if s0 = 0 then (f_X3_check_b62 z  x0 x1 x2 x3 s0 (0 : Int32) (7 : Int32) x0 x3 M) else (f_X3_check_b62 z  x0 x1 x2 x3 s0 (1 : Int32) (7 : Int32) x0 x3 M))
set_option maxRecDepth 20000 in
set_option maxHeartbeats 4000000 in
theorem t_X3_check_b46 {z : Sh9} {N : Nv9} {X : Cx9} {out : Out9 × Mem9} (C : OK9 z N X out 6 (co9 out.1) cX3_check RX3 3 0 [])  (x0 : Nat) (x1 : Int32) (x2 : Int32) (x3 : Int32) (s0 : Int32) (M : Mem9) : J9 z N X out 6 46 [(0, .ref x0), (1, .int x1), (2, .int x2), (3, .int x3)] [.int s0] M (0, 0) (f_X3_check_b46 z  x0 x1 x2 x3 s0 M) := by
  refine j_istore (pc := 46) C dX3_check_46 (Nat.le_of_ble_eq_true rfl) (ls' := [(4, .int s0), (0, .ref x0), (1, .int x1), (2, .int x2), (3, .int x3)]) rfl ?_
  refine j_iload_n (pc := 48) C dX3_check_48 rfl ?_
  refine j_aload_n (pc := 49) C dX3_check_49 rfl ?_
  refine j_bipush (pc := 50) C dX3_check_50 (v := 7) rfl ?_
  refine j_iload (pc := 52) C dX3_check_52 rfl ?_
  refine j_if_eq (pc := 54) C dX3_check_54 (tgt := 61) (by decide) (fun hc11 => ?_) (fun hc11 => ?_)
  · refine j_iconst (pc := 61) C dX3_check_61 (v := 0) rfl ?_
    refine j_loc [1, 2, 3, 4, 0] rfl ?_
    exact t_X3_check_b62 C  x0 x1 x2 x3 s0 (0 : Int32) (7 : Int32) x0 x3 M
  · refine j_iconst (pc := 57) C dX3_check_57 (v := 1) rfl ?_
    refine j_goto (pc := 58) C dX3_check_58 (tgt := 62) (by decide) ?_
    refine j_loc [1, 2, 3, 4, 0] rfl ?_
    exact t_X3_check_b62 C  x0 x1 x2 x3 s0 (1 : Int32) (7 : Int32) x0 x3 M
def f_X3_check (z : Sh9) (a0 : Nat) (a1 : Int32) (M : Mem9) : Re9 :=
  (bi9 (f_X3_checked z a0 a1 M) fun v2 M1 => (if v2 = (-1 : Int32) then (bv9 (f_X3_lay z a0 a1 (6 : Int32) (0 : Int32) M1) fun M9 => (rv9 M9)) else (bi9 (f_X3_of z a0 a1 (6 : Int32) M1) fun v4 M3 => (nm9 (v4 + (1 : Int32)) fun (y5 : Int32) => (bi9 (f_X3_told z a0 a1 v2 (2 : Int32) M3) fun v7 M6 => (if v7 = (1 : Int32) then (f_X3_check_b46 z  a0 a1 v2 y5 (1 : Int32) M6) else (f_X3_check_b46 z  a0 a1 v2 y5 (0 : Int32) M6)))))))
set_option maxRecDepth 20000 in
set_option maxHeartbeats 4000000 in
theorem t_X3_check {z : Sh9} {N : Nv9} {X : Cx9} {out : Out9 × Mem9} (C : OK9 z N X out 6 (co9 out.1) cX3_check RX3 3 0 []) (a0 : Nat) (a1 : Int32) (M : Mem9) : J9 z N X out 6 0 [(0, .ref a0), (1, .int a1)] [] M (0, 0) (f_X3_check z a0 a1 M) := by
  refine j_aload_n (pc := 0) C dX3_check_0 rfl ?_
  refine j_iload_n (pc := 1) C dX3_check_1 rfl ?_
  refine j_callSi (pc := 2) C rfl dX3_check_2 ls_X3_79 rfl (Nat.le_of_ble_eq_true rfl) (Nat.le_of_ble_eq_true rfl) (by decide) (Or.inl rfl) ⟨Nat.le_refl _, Nat.le_refl _⟩ (fun l hl o ho => sp_X3_checked hl ho) (fun v2 M1 => ?_)
  refine j_istore_n (pc := 5) C dX3_check_5 (Nat.le_of_ble_eq_true rfl) (ls' := [(2, .int v2), (0, .ref a0), (1, .int a1)]) rfl ?_
  refine j_iload_n (pc := 6) C dX3_check_6 rfl ?_
  refine j_iconst (pc := 7) C dX3_check_7 (v := -1) rfl ?_
  refine j_icmp_ne (pc := 8) C dX3_check_8 (tgt := 20) (by decide) (fun hc10 => ?_) (fun hc10 => ?_)
  · refine j_aload_n (pc := 20) C dX3_check_20 rfl ?_
    refine j_iload_n (pc := 21) C dX3_check_21 rfl ?_
    refine j_bipush (pc := 22) C dX3_check_22 (v := 6) rfl ?_
    refine j_callSi (pc := 24) C rfl dX3_check_24 ls_X3_48 rfl (Nat.le_of_ble_eq_true rfl) (Nat.le_of_ble_eq_true rfl) (by decide) (Or.inl rfl) ⟨Nat.le_refl _, Nat.le_refl _⟩ (fun l hl o ho => sp_X3_of hl ho) (fun v4 M3 => ?_)
    refine j_iconst (pc := 27) C dX3_check_27 (v := 1) rfl ?_
    refine j_iadd (pc := 28) C dX3_check_28 ?_
    refine j_nm (st' := fun x9 : Int32 => .int x9 :: []) rfl (fun y5 => ?_)
    refine j_istore_n (pc := 29) C dX3_check_29 (Nat.le_of_ble_eq_true rfl) (ls' := [(3, .int y5), (2, .int v2), (0, .ref a0), (1, .int a1)]) rfl ?_
    refine j_aload_n (pc := 30) C dX3_check_30 rfl ?_
    refine j_iload_n (pc := 31) C dX3_check_31 rfl ?_
    refine j_iload_n (pc := 32) C dX3_check_32 rfl ?_
    refine j_iconst (pc := 33) C dX3_check_33 (v := 2) rfl ?_
    refine j_callSi (pc := 34) C rfl dX3_check_34 ls_X3_56 rfl (Nat.le_of_ble_eq_true rfl) (Nat.le_of_ble_eq_true rfl) (by decide) (Or.inl rfl) ⟨Nat.le_refl _, Nat.le_refl _⟩ (fun l hl o ho => sp_X3_told hl ho) (fun v7 M6 => ?_)
    refine j_iconst (pc := 37) C dX3_check_37 (v := 1) rfl ?_
    refine j_icmp_ne (pc := 38) C dX3_check_38 (tgt := 45) (by decide) (fun hc8 => ?_) (fun hc8 => ?_)
    · refine j_iconst (pc := 45) C dX3_check_45 (v := 0) rfl ?_
      refine j_loc [2, 3, 1, 0] rfl ?_
      exact t_X3_check_b46 C  a0 a1 v2 y5 (0 : Int32) M6
    · refine j_iconst (pc := 41) C dX3_check_41 (v := 1) rfl ?_
      refine j_goto (pc := 42) C dX3_check_42 (tgt := 46) (by decide) ?_
      refine j_loc [2, 3, 1, 0] rfl ?_
      exact t_X3_check_b46 C  a0 a1 v2 y5 (1 : Int32) M6
  · refine j_aload_n (pc := 11) C dX3_check_11 rfl ?_
    refine j_iload_n (pc := 12) C dX3_check_12 rfl ?_
    refine j_bipush (pc := 13) C dX3_check_13 (v := 6) rfl ?_
    refine j_iconst (pc := 15) C dX3_check_15 (v := 0) rfl ?_
    refine j_callSv (pc := 16) C rfl dX3_check_16 ls_X3_67 rfl (Nat.le_of_ble_eq_true rfl) (Nat.le_of_ble_eq_true rfl) (by decide) (Or.inl rfl) ⟨Nat.le_refl _, Nat.le_refl _⟩ (fun l hl o ho => sp_X3_lay hl ho) (fun M9 => ?_)
    exact j_return (pc := 19) C rfl dX3_check_19 ⟨Nat.zero_le _, Nat.zero_le _⟩
theorem sp_X3_check {l : Launch} {z : Sh9} {N : Nv9} {a0 : Nat} {a1 : Int32} {M : Mem9} {o : Out9 × Mem9} (hl : l.stackTraces = false) (h : f_X3_check z a0 a1 M = some o) : Sp9 l z N yX3_check (Cond.code yX3_check cX3_check 6 none) 3 [.ref a0, .int a1] M (co9 o.1) o :=
  sp9_of (rk := 0) (own := RX3) (by decide +kernel) rfl (Or.inl ⟨rfl, rfl⟩) hl (Nat.le_of_ble_eq_true rfl) (fun X C => t_X3_check C a0 a1 M) h
def f_X3_goThrough_b121 (z : Sh9) (r2 : Nat → Nat → Int32 → Int32 → Mem9 → Re9) (x0 : Nat) (x1 : Nat) (x2 : Int32) (x3 : Int32) (s0 : Int32) (s1 : Int32) (s2 : Int32) (s3 : Nat) (M : Mem9) : Re9 :=
  (bv9 (f_X3_lay z s3 s2 s1 s0 M) fun M25 => (r2 x0 x1 x2 (x3 + (1 : Int32)) M25))
set_option maxRecDepth 20000 in
set_option maxHeartbeats 4000000 in
theorem t_X3_goThrough_b121 {z : Sh9} {N : Nv9} {X : Cx9} {out : Out9 × Mem9} (C : OK9 z N X out 6 (co9 out.1) cX3_goThrough RX3 3 0 []) {r2 : Nat → Nat → Int32 → Int32 → Mem9 → Re9} (h2 : ∀ (x0 : Nat) (x1 : Nat) (x2 : Int32) (x3 : Int32) (M : Mem9), J9 z N X out 6 2 [(0, .ref x0), (1, .ref x1), (2, .int x2), (3, .int x3)] [] M (0, 0) (r2 x0 x1 x2 x3 M)) (x0 : Nat) (x1 : Nat) (x2 : Int32) (x3 : Int32) (s0 : Int32) (s1 : Int32) (s2 : Int32) (s3 : Nat) (M : Mem9) : J9 z N X out 6 121 [(0, .ref x0), (1, .ref x1), (2, .int x2), (3, .int x3)] [.int s0, .int s1, .int s2, .ref s3] M (0, 0) (f_X3_goThrough_b121 z r2 x0 x1 x2 x3 s0 s1 s2 s3 M) := by
  refine j_callSv (pc := 121) C rfl dX3_goThrough_121 ls_X3_67 rfl (Nat.le_of_ble_eq_true rfl) (Nat.le_of_ble_eq_true rfl) (by decide) (Or.inl rfl) ⟨Nat.le_refl _, Nat.le_refl _⟩ (fun l hl o ho => sp_X3_lay hl ho) (fun M25 => ?_)
  refine j_iinc (pc := 124) C dX3_goThrough_124 rfl (v := (x3 + (1 : Int32))) rfl (Nat.le_of_ble_eq_true rfl) (ls' := [(3, .int (x3 + (1 : Int32))), (0, .ref x0), (1, .ref x1), (2, .int x2)]) rfl ?_
  refine j_goto (pc := 127) C dX3_goThrough_127 (tgt := 2) (by decide) ?_
  refine j_loc [1, 2, 3, 0] rfl ?_
  exact h2 x0 x1 x2 (x3 + (1 : Int32)) M25
def f_X3_goThrough_b80 (z : Sh9) (r2 : Nat → Nat → Int32 → Int32 → Mem9 → Re9) (x0 : Nat) (x1 : Nat) (x2 : Int32) (x3 : Int32) (x4 : Int32) (s0 : Int32) (s1 : Int32) (s2 : Int32) (s3 : Nat) (M : Mem9) : Re9 :=
  ((st9 z M s3 s2 (s1 + s0)).bind fun M18 => (bi9 (f_X3_of z x1 x2 (3 : Int32) M18) fun v20 M19 => (if x4 = 0 then (f_X3_goThrough_b121 z r2 x0 x1 x2 x3 v20 (3 : Int32) x2 x1 M19) else (bi9 (f_X3_told z x1 x2 x3 (0 : Int32) M19) fun v22 M21 => ((dv9 (((8 : Int32) * v22) - v20) (4 : Int32)).bind fun v23 => (f_X3_goThrough_b121 z r2 x0 x1 x2 x3 (v20 + v23) (3 : Int32) x2 x1 M21))))))
set_option maxRecDepth 20000 in
set_option maxHeartbeats 4000000 in
theorem t_X3_goThrough_b80 {z : Sh9} {N : Nv9} {X : Cx9} {out : Out9 × Mem9} (C : OK9 z N X out 6 (co9 out.1) cX3_goThrough RX3 3 0 []) {r2 : Nat → Nat → Int32 → Int32 → Mem9 → Re9} (h2 : ∀ (x0 : Nat) (x1 : Nat) (x2 : Int32) (x3 : Int32) (M : Mem9), J9 z N X out 6 2 [(0, .ref x0), (1, .ref x1), (2, .int x2), (3, .int x3)] [] M (0, 0) (r2 x0 x1 x2 x3 M)) (x0 : Nat) (x1 : Nat) (x2 : Int32) (x3 : Int32) (x4 : Int32) (s0 : Int32) (s1 : Int32) (s2 : Int32) (s3 : Nat) (M : Mem9) : J9 z N X out 6 80 [(0, .ref x0), (1, .ref x1), (2, .int x2), (3, .int x3), (4, .int x4)] [.int s0, .int s1, .int s2, .ref s3] M (0, 0) (f_X3_goThrough_b80 z r2 x0 x1 x2 x3 x4 s0 s1 s2 s3 M) := by
  refine j_iadd (pc := 80) C dX3_goThrough_80 ?_
  refine j_iastore (pc := 81) C dX3_goThrough_81 (fun M18 => ?_)
  refine j_aload_n (pc := 82) C dX3_goThrough_82 rfl ?_
  refine j_iload_n (pc := 83) C dX3_goThrough_83 rfl ?_
  refine j_iconst (pc := 84) C dX3_goThrough_84 (v := 3) rfl ?_
  refine j_callSi (pc := 85) C rfl dX3_goThrough_85 ls_X3_48 rfl (Nat.le_of_ble_eq_true rfl) (Nat.le_of_ble_eq_true rfl) (by decide) (Or.inl rfl) ⟨Nat.le_refl _, Nat.le_refl _⟩ (fun l hl o ho => sp_X3_of hl ho) (fun v20 M19 => ?_)
  refine j_istore (pc := 88) C dX3_goThrough_88 (Nat.le_of_ble_eq_true rfl) (ls' := [(5, .int v20), (0, .ref x0), (1, .ref x1), (2, .int x2), (3, .int x3), (4, .int x4)]) rfl ?_
  refine j_aload_n (pc := 90) C dX3_goThrough_90 rfl ?_
  refine j_iload_n (pc := 91) C dX3_goThrough_91 rfl ?_
  refine j_iconst (pc := 92) C dX3_goThrough_92 (v := 3) rfl ?_
  refine j_iload (pc := 93) C dX3_goThrough_93 rfl ?_
  refine j_if_eq (pc := 95) C dX3_goThrough_95 (tgt := 119) (by decide) (fun hc24 => ?_) (fun hc24 => ?_)
  · refine j_iload (pc := 119) C dX3_goThrough_119 rfl ?_
    refine j_loc [1, 2, 3, 4] rfl ?_
    exact t_X3_goThrough_b121 C h2 x0 x1 x2 x3 v20 (3 : Int32) x2 x1 M19
  · refine j_iload (pc := 98) C dX3_goThrough_98 rfl ?_
    refine j_bipush (pc := 100) C dX3_goThrough_100 (v := 8) rfl ?_
    refine j_aload_n (pc := 102) C dX3_goThrough_102 rfl ?_
    refine j_iload_n (pc := 103) C dX3_goThrough_103 rfl ?_
    refine j_iload_n (pc := 104) C dX3_goThrough_104 rfl ?_
    refine j_iconst (pc := 105) C dX3_goThrough_105 (v := 0) rfl ?_
    refine j_callSi (pc := 106) C rfl dX3_goThrough_106 ls_X3_56 rfl (Nat.le_of_ble_eq_true rfl) (Nat.le_of_ble_eq_true rfl) (by decide) (Or.inl rfl) ⟨Nat.le_refl _, Nat.le_refl _⟩ (fun l hl o ho => sp_X3_told hl ho) (fun v22 M21 => ?_)
    refine j_imul (pc := 109) C dX3_goThrough_109 ?_
    refine j_iload (pc := 110) C dX3_goThrough_110 rfl ?_
    refine j_isub (pc := 112) C dX3_goThrough_112 ?_
    refine j_iconst (pc := 113) C dX3_goThrough_113 (v := 4) rfl ?_
    refine j_idiv (pc := 114) C dX3_goThrough_114 (fun v23 => ?_)
    refine j_iadd (pc := 115) C dX3_goThrough_115 ?_
    refine j_goto (pc := 116) C dX3_goThrough_116 (tgt := 121) (by decide) ?_
    refine j_loc [1, 2, 3, 4] rfl ?_
    exact t_X3_goThrough_b121 C h2 x0 x1 x2 x3 (v20 + v23) (3 : Int32) x2 x1 M21
def f_X3_goThrough_b64 (z : Sh9) (r2 : Nat → Nat → Int32 → Int32 → Mem9 → Re9) (x0 : Nat) (x1 : Nat) (x2 : Int32) (x3 : Int32) (x4 : Int32) (s0 : Int32) (s1 : Int32) (s2 : Int32) (s3 : Nat) (M : Mem9) : Re9 :=
  ((st9 z M s3 s2 (s1 + s0)).bind fun M15 => ((ld9 z M15 10 x1 (4 : Int32)).bind fun v16 => (if x4 = 0 then (f_X3_goThrough_b80 z r2 x0 x1 x2 x3 x4 (1 : Int32) v16 (4 : Int32) x1 M15) else (f_X3_goThrough_b80 z r2 x0 x1 x2 x3 x4 (0 : Int32) v16 (4 : Int32) x1 M15))))
set_option maxRecDepth 20000 in
set_option maxHeartbeats 4000000 in
theorem t_X3_goThrough_b64 {z : Sh9} {N : Nv9} {X : Cx9} {out : Out9 × Mem9} (C : OK9 z N X out 6 (co9 out.1) cX3_goThrough RX3 3 0 []) {r2 : Nat → Nat → Int32 → Int32 → Mem9 → Re9} (h2 : ∀ (x0 : Nat) (x1 : Nat) (x2 : Int32) (x3 : Int32) (M : Mem9), J9 z N X out 6 2 [(0, .ref x0), (1, .ref x1), (2, .int x2), (3, .int x3)] [] M (0, 0) (r2 x0 x1 x2 x3 M)) (x0 : Nat) (x1 : Nat) (x2 : Int32) (x3 : Int32) (x4 : Int32) (s0 : Int32) (s1 : Int32) (s2 : Int32) (s3 : Nat) (M : Mem9) : J9 z N X out 6 64 [(0, .ref x0), (1, .ref x1), (2, .int x2), (3, .int x3), (4, .int x4)] [.int s0, .int s1, .int s2, .ref s3] M (0, 0) (f_X3_goThrough_b64 z r2 x0 x1 x2 x3 x4 s0 s1 s2 s3 M) := by
  refine j_iadd (pc := 64) C dX3_goThrough_64 ?_
  refine j_iastore (pc := 65) C dX3_goThrough_65 (fun M15 => ?_)
  refine j_aload_n (pc := 66) C dX3_goThrough_66 rfl ?_
  refine j_iconst (pc := 67) C dX3_goThrough_67 (v := 4) rfl ?_
  refine j_dup2_11 (pc := 68) C dX3_goThrough_68 rfl rfl ?_
  refine j_iaload (pc := 69) C dX3_goThrough_69 (fun v16 => ?_)
  refine j_iload (pc := 70) C dX3_goThrough_70 rfl ?_
  refine j_if_eq (pc := 72) C dX3_goThrough_72 (tgt := 79) (by decide) (fun hc17 => ?_) (fun hc17 => ?_)
  · refine j_iconst (pc := 79) C dX3_goThrough_79 (v := 1) rfl ?_
    exact t_X3_goThrough_b80 C h2 x0 x1 x2 x3 x4 (1 : Int32) v16 (4 : Int32) x1 M15
  · refine j_iconst (pc := 75) C dX3_goThrough_75 (v := 0) rfl ?_
    refine j_goto (pc := 76) C dX3_goThrough_76 (tgt := 80) (by decide) ?_
    exact t_X3_goThrough_b80 C h2 x0 x1 x2 x3 x4 (0 : Int32) v16 (4 : Int32) x1 M15
def f_X3_goThrough_b48 (z : Sh9) (r2 : Nat → Nat → Int32 → Int32 → Mem9 → Re9) (x0 : Nat) (x1 : Nat) (x2 : Int32) (x3 : Int32) (s0 : Int32) (M : Mem9) : Re9 :=
  ((ld9 z M 10 x1 (3 : Int32)).bind fun v13 => (if s0 = 0 then (f_X3_goThrough_b64 z r2 x0 x1 x2 x3 s0 (0 : Int32) v13 (3 : Int32) x1 M) else (f_X3_goThrough_b64 z r2 x0 x1 x2 x3 s0 (1 : Int32) v13 (3 : Int32) x1 M)))
set_option maxRecDepth 20000 in
set_option maxHeartbeats 4000000 in
theorem t_X3_goThrough_b48 {z : Sh9} {N : Nv9} {X : Cx9} {out : Out9 × Mem9} (C : OK9 z N X out 6 (co9 out.1) cX3_goThrough RX3 3 0 []) {r2 : Nat → Nat → Int32 → Int32 → Mem9 → Re9} (h2 : ∀ (x0 : Nat) (x1 : Nat) (x2 : Int32) (x3 : Int32) (M : Mem9), J9 z N X out 6 2 [(0, .ref x0), (1, .ref x1), (2, .int x2), (3, .int x3)] [] M (0, 0) (r2 x0 x1 x2 x3 M)) (x0 : Nat) (x1 : Nat) (x2 : Int32) (x3 : Int32) (s0 : Int32) (M : Mem9) : J9 z N X out 6 48 [(0, .ref x0), (1, .ref x1), (2, .int x2), (3, .int x3)] [.int s0] M (0, 0) (f_X3_goThrough_b48 z r2 x0 x1 x2 x3 s0 M) := by
  refine j_istore (pc := 48) C dX3_goThrough_48 (Nat.le_of_ble_eq_true rfl) (ls' := [(4, .int s0), (0, .ref x0), (1, .ref x1), (2, .int x2), (3, .int x3)]) rfl ?_
  refine j_aload_n (pc := 50) C dX3_goThrough_50 rfl ?_
  refine j_iconst (pc := 51) C dX3_goThrough_51 (v := 3) rfl ?_
  refine j_dup2_11 (pc := 52) C dX3_goThrough_52 rfl rfl ?_
  refine j_iaload (pc := 53) C dX3_goThrough_53 (fun v13 => ?_)
  refine j_iload (pc := 54) C dX3_goThrough_54 rfl ?_
  refine j_if_eq (pc := 56) C dX3_goThrough_56 (tgt := 63) (by decide) (fun hc14 => ?_) (fun hc14 => ?_)
  · refine j_iconst (pc := 63) C dX3_goThrough_63 (v := 0) rfl ?_
    refine j_loc [1, 2, 3, 4, 0] rfl ?_
    exact t_X3_goThrough_b64 C h2 x0 x1 x2 x3 s0 (0 : Int32) v13 (3 : Int32) x1 M
  · refine j_iconst (pc := 59) C dX3_goThrough_59 (v := 1) rfl ?_
    refine j_goto (pc := 60) C dX3_goThrough_60 (tgt := 64) (by decide) ?_
    refine j_loc [1, 2, 3, 4, 0] rfl ?_
    exact t_X3_goThrough_b64 C h2 x0 x1 x2 x3 s0 (1 : Int32) v13 (3 : Int32) x1 M
def f_X3_goThrough_b2 (z : Sh9) (r2 : Nat → Nat → Int32 → Int32 → Mem9 → Re9) (x0 : Nat) (x1 : Nat) (x2 : Int32) (x3 : Int32) (M : Mem9) : Re9 :=
  (bi9 (f_X3_of z x1 x2 (0 : Int32) M) fun v2 M1 => (if v2 ≤ x3 then (rv9 M1) else ((rf9 z x0 3 7).bind fun v3 => ((ld9 z M1 11 v3 x3).bind fun v4 => (if v4 = 0 then (r2 x0 x1 x2 (x3 + (1 : Int32)) M1) else (bi9 (f_X3_last z x1 x2 x3 M1) fun v6 M5 => (if v6 = (21 : Int32) then (bi9 (f_X3_told z x1 x2 x3 (4 : Int32) M5) fun v8 M7 => (if v8 = (1 : Int32) then (f_X3_goThrough_b48 z r2 x0 x1 x2 x3 (1 : Int32) M7) else (f_X3_goThrough_b48 z r2 x0 x1 x2 x3 (0 : Int32) M7))) else (r2 x0 x1 x2 (x3 + (1 : Int32)) M5))))))))
set_option maxRecDepth 20000 in
set_option maxHeartbeats 4000000 in
theorem t_X3_goThrough_b2 {z : Sh9} {N : Nv9} {X : Cx9} {out : Out9 × Mem9} (C : OK9 z N X out 6 (co9 out.1) cX3_goThrough RX3 3 0 []) {r2 : Nat → Nat → Int32 → Int32 → Mem9 → Re9} (h2 : ∀ (x0 : Nat) (x1 : Nat) (x2 : Int32) (x3 : Int32) (M : Mem9), J9 z N X out 6 2 [(0, .ref x0), (1, .ref x1), (2, .int x2), (3, .int x3)] [] M (0, 0) (r2 x0 x1 x2 x3 M)) (x0 : Nat) (x1 : Nat) (x2 : Int32) (x3 : Int32) (M : Mem9) : J9 z N X out 6 2 [(0, .ref x0), (1, .ref x1), (2, .int x2), (3, .int x3)] [] M (0, 0) (f_X3_goThrough_b2 z r2 x0 x1 x2 x3 M) := by
  refine j_iload_n (pc := 2) C dX3_goThrough_2 rfl ?_
  refine j_aload_n (pc := 3) C dX3_goThrough_3 rfl ?_
  refine j_iload_n (pc := 4) C dX3_goThrough_4 rfl ?_
  refine j_iconst (pc := 5) C dX3_goThrough_5 (v := 0) rfl ?_
  refine j_callSi (pc := 6) C rfl dX3_goThrough_6 ls_X3_48 rfl (Nat.le_of_ble_eq_true rfl) (Nat.le_of_ble_eq_true rfl) (by decide) (Or.inl rfl) ⟨Nat.le_refl _, Nat.le_refl _⟩ (fun l hl o ho => sp_X3_of hl ho) (fun v2 M1 => ?_)
  refine j_icmp_ge (pc := 9) C dX3_goThrough_9 (tgt := 130) (by decide) (fun hc12 => ?_) (fun hc12 => ?_)
  · exact j_return (pc := 130) C rfl dX3_goThrough_130 ⟨Nat.zero_le _, Nat.zero_le _⟩
  · refine j_aload_n (pc := 12) C dX3_goThrough_12 rfl ?_
    refine j_getR (pc := 13) C dX3_goThrough_13 fl_X3_29 fr_X3_9 (fun v3 => ?_)
    refine j_iload_n (pc := 16) C dX3_goThrough_16 rfl ?_
    refine j_baload (pc := 17) C dX3_goThrough_17 (fun v4 => ?_)
    refine j_if_eq (pc := 18) C dX3_goThrough_18 (tgt := 124) (by decide) (fun hc11 => ?_) (fun hc11 => ?_)
    · refine j_iinc (pc := 124) C dX3_goThrough_124 rfl (v := (x3 + (1 : Int32))) rfl (Nat.le_of_ble_eq_true rfl) (ls' := [(3, .int (x3 + (1 : Int32))), (0, .ref x0), (1, .ref x1), (2, .int x2)]) rfl ?_
      refine j_goto (pc := 127) C dX3_goThrough_127 (tgt := 2) (by decide) ?_
      refine j_loc [1, 2, 3, 0] rfl ?_
      exact h2 x0 x1 x2 (x3 + (1 : Int32)) M1
    · refine j_aload_n (pc := 21) C dX3_goThrough_21 rfl ?_
      refine j_iload_n (pc := 22) C dX3_goThrough_22 rfl ?_
      refine j_iload_n (pc := 23) C dX3_goThrough_23 rfl ?_
      refine j_callSi (pc := 24) C rfl dX3_goThrough_24 ls_X3_60 rfl (Nat.le_of_ble_eq_true rfl) (Nat.le_of_ble_eq_true rfl) (by decide) (Or.inl rfl) ⟨Nat.le_refl _, Nat.le_refl _⟩ (fun l hl o ho => sp_X3_last hl ho) (fun v6 M5 => ?_)
      refine j_bipush (pc := 27) C dX3_goThrough_27 (v := 21) rfl ?_
      refine j_icmp_ne (pc := 29) C dX3_goThrough_29 (tgt := 124) (by decide) (fun hc10 => ?_) (fun hc10 => ?_)
      · refine j_iinc (pc := 124) C dX3_goThrough_124 rfl (v := (x3 + (1 : Int32))) rfl (Nat.le_of_ble_eq_true rfl) (ls' := [(3, .int (x3 + (1 : Int32))), (0, .ref x0), (1, .ref x1), (2, .int x2)]) rfl ?_
        refine j_goto (pc := 127) C dX3_goThrough_127 (tgt := 2) (by decide) ?_
        refine j_loc [1, 2, 3, 0] rfl ?_
        exact h2 x0 x1 x2 (x3 + (1 : Int32)) M5
      · refine j_aload_n (pc := 32) C dX3_goThrough_32 rfl ?_
        refine j_iload_n (pc := 33) C dX3_goThrough_33 rfl ?_
        refine j_iload_n (pc := 34) C dX3_goThrough_34 rfl ?_
        refine j_iconst (pc := 35) C dX3_goThrough_35 (v := 4) rfl ?_
        refine j_callSi (pc := 36) C rfl dX3_goThrough_36 ls_X3_56 rfl (Nat.le_of_ble_eq_true rfl) (Nat.le_of_ble_eq_true rfl) (by decide) (Or.inl rfl) ⟨Nat.le_refl _, Nat.le_refl _⟩ (fun l hl o ho => sp_X3_told hl ho) (fun v8 M7 => ?_)
        refine j_iconst (pc := 39) C dX3_goThrough_39 (v := 1) rfl ?_
        refine j_icmp_ne (pc := 40) C dX3_goThrough_40 (tgt := 47) (by decide) (fun hc9 => ?_) (fun hc9 => ?_)
        · refine j_iconst (pc := 47) C dX3_goThrough_47 (v := 0) rfl ?_
          exact t_X3_goThrough_b48 C h2 x0 x1 x2 x3 (0 : Int32) M7
        · refine j_iconst (pc := 43) C dX3_goThrough_43 (v := 1) rfl ?_
          refine j_goto (pc := 44) C dX3_goThrough_44 (tgt := 48) (by decide) ?_
          exact t_X3_goThrough_b48 C h2 x0 x1 x2 x3 (1 : Int32) M7
theorem t_X3_goThrough_l2 {z : Sh9} {N : Nv9} {X : Cx9} {out : Out9 × Mem9} (C : OK9 z N X out 6 (co9 out.1) cX3_goThrough RX3 3 0 [])  : ∀ (n : Nat) (x0 : Nat) (x1 : Nat) (x2 : Int32) (x3 : Int32) (M : Mem9), J9 z N X out 6 2 [(0, .ref x0), (1, .ref x1), (2, .int x2), (3, .int x3)] [] M (0, 0) (fx9 (fun _ _ _ _ _ => none) (f_X3_goThrough_b2 z ) n x0 x1 x2 x3 M) := by
  intro n
  induction n with
  | zero => intro x0 x1 x2 x3 M; exact j_none
  | succ n ih => intro x0 x1 x2 x3 M; exact t_X3_goThrough_b2 C  ih x0 x1 x2 x3 M
def f_X3_goThrough (z : Sh9) (a0 : Nat) (a1 : Nat) (a2 : Int32) (M : Mem9) : Re9 :=
  (fx9 (fun _ _ _ _ _ => none) (f_X3_goThrough_b2 z ) FU9 a0 a1 a2 (0 : Int32) M)
set_option maxRecDepth 20000 in
set_option maxHeartbeats 4000000 in
theorem t_X3_goThrough {z : Sh9} {N : Nv9} {X : Cx9} {out : Out9 × Mem9} (C : OK9 z N X out 6 (co9 out.1) cX3_goThrough RX3 3 0 []) (a0 : Nat) (a1 : Nat) (a2 : Int32) (M : Mem9) : J9 z N X out 6 0 [(0, .ref a0), (1, .ref a1), (2, .int a2)] [] M (0, 0) (f_X3_goThrough z a0 a1 a2 M) := by
  refine j_iconst (pc := 0) C dX3_goThrough_0 (v := 0) rfl ?_
  refine j_istore_n (pc := 1) C dX3_goThrough_1 (Nat.le_of_ble_eq_true rfl) (ls' := [(3, .int (0 : Int32)), (0, .ref a0), (1, .ref a1), (2, .int a2)]) rfl ?_
  refine j_loc [1, 2, 3, 0] rfl ?_
  exact t_X3_goThrough_l2 C  FU9 a0 a1 a2 (0 : Int32) M
theorem sp_X3_goThrough {l : Launch} {z : Sh9} {N : Nv9} {a0 : Nat} {a1 : Nat} {a2 : Int32} {M : Mem9} {o : Out9 × Mem9} (hl : l.stackTraces = false) (h : f_X3_goThrough z a0 a1 a2 M = some o) : Sp9 l z N yX3_goThrough (Cond.code yX3_goThrough cX3_goThrough 6 none) 3 [.ref a0, .ref a1, .int a2] M (co9 o.1) o :=
  sp9_of (rk := 0) (own := RX3) (by decide +kernel) rfl (Or.inl ⟨rfl, rfl⟩) hl (Nat.le_of_ble_eq_true rfl) (fun X C => t_X3_goThrough C a0 a1 a2 M) h
def f_X3_covers (z : Sh9) (a0 : Nat) (a1 : Int32) (a2 : Int32) (a3 : Int32) (M : Mem9) : Re9 :=
  (bi9 (f_X3_told z a0 a1 a2 (1 : Int32) M) fun v2 M1 => (if v2 < a3 then (rz9 (0 : Int32) M1) else (bi9 (f_X3_last z a0 a1 a2 M1) fun v4 M3 => (if a3 < v4 then (rz9 (0 : Int32) M3) else (rz9 (1 : Int32) M3)))))
set_option maxRecDepth 20000 in
set_option maxHeartbeats 4000000 in
theorem t_X3_covers {z : Sh9} {N : Nv9} {X : Cx9} {out : Out9 × Mem9} (C : OK9 z N X out 4 (co9 out.1) cX3_covers RX3 3 2 []) (a0 : Nat) (a1 : Int32) (a2 : Int32) (a3 : Int32) (M : Mem9) : J9 z N X out 4 0 [(0, .ref a0), (1, .int a1), (2, .int a2), (3, .int a3)] [] M (0, 0) (f_X3_covers z a0 a1 a2 a3 M) := by
  refine j_iload_n (pc := 0) C dX3_covers_0 rfl ?_
  refine j_aload_n (pc := 1) C dX3_covers_1 rfl ?_
  refine j_iload_n (pc := 2) C dX3_covers_2 rfl ?_
  refine j_iload_n (pc := 3) C dX3_covers_3 rfl ?_
  refine j_iconst (pc := 4) C dX3_covers_4 (v := 1) rfl ?_
  refine j_callSi (pc := 5) C rfl dX3_covers_5 ls_X3_56 rfl (Nat.le_of_ble_eq_true rfl) (Nat.le_of_ble_eq_true rfl) (by decide) (Or.inl rfl) ⟨Nat.le_refl _, Nat.le_refl _⟩ (fun l hl o ho => sp_X3_told hl ho) (fun v2 M1 => ?_)
  refine j_icmp_gt (pc := 8) C dX3_covers_8 (tgt := 25) (by decide) (fun hc6 => ?_) (fun hc6 => ?_)
  · refine j_iconst (pc := 25) C dX3_covers_25 (v := 0) rfl ?_
    exact j_zreturn (pc := 26) C rfl dX3_covers_26 ⟨Nat.zero_le _, Nat.zero_le _⟩
  · refine j_iload_n (pc := 11) C dX3_covers_11 rfl ?_
    refine j_aload_n (pc := 12) C dX3_covers_12 rfl ?_
    refine j_iload_n (pc := 13) C dX3_covers_13 rfl ?_
    refine j_iload_n (pc := 14) C dX3_covers_14 rfl ?_
    refine j_callSi (pc := 15) C rfl dX3_covers_15 ls_X3_60 rfl (Nat.le_of_ble_eq_true rfl) (Nat.le_of_ble_eq_true rfl) (by decide) (Or.inl rfl) ⟨Nat.le_refl _, Nat.le_refl _⟩ (fun l hl o ho => sp_X3_last hl ho) (fun v4 M3 => ?_)
    refine j_icmp_lt (pc := 18) C dX3_covers_18 (tgt := 25) (by decide) (fun hc5 => ?_) (fun hc5 => ?_)
    · refine j_iconst (pc := 25) C dX3_covers_25 (v := 0) rfl ?_
      exact j_zreturn (pc := 26) C rfl dX3_covers_26 ⟨Nat.zero_le _, Nat.zero_le _⟩
    · refine j_iconst (pc := 21) C dX3_covers_21 (v := 1) rfl ?_
      refine j_goto (pc := 22) C dX3_covers_22 (tgt := 26) (by decide) ?_
      exact j_zreturn (pc := 26) C rfl dX3_covers_26 ⟨Nat.zero_le _, Nat.zero_le _⟩
theorem sp_X3_covers {l : Launch} {z : Sh9} {N : Nv9} {a0 : Nat} {a1 : Int32} {a2 : Int32} {a3 : Int32} {M : Mem9} {o : Out9 × Mem9} (hl : l.stackTraces = false) (h : f_X3_covers z a0 a1 a2 a3 M = some o) : Sp9 l z N yX3_covers (Cond.code yX3_covers cX3_covers 4 (some .boolean)) 3 [.ref a0, .int a1, .int a2, .int a3] M (co9 o.1) o :=
  sp9_of (rk := 2) (own := RX3) (by decide +kernel) rfl (Or.inr (Or.inr (Or.inl ⟨rfl, rfl⟩))) hl (Nat.le_of_ble_eq_true rfl) (fun X C => t_X3_covers C a0 a1 a2 a3 M) h
def f_X3_isCovered_b2 (z : Sh9) (r2 : Nat → Int32 → Int32 → Mem9 → Re9) (x0 : Nat) (x1 : Int32) (x2 : Int32) (M : Mem9) : Re9 :=
  (bi9 (f_X3_of z x0 x1 (0 : Int32) M) fun v2 M1 => (if v2 ≤ x2 then (rz9 (0 : Int32) M1) else (bi9 (f_X3_covers z x0 x1 x2 (20 : Int32) M1) fun v4 M3 => (if v4 = 0 then (r2 x0 x1 (x2 + (1 : Int32)) M3) else (rz9 (1 : Int32) M3)))))
set_option maxRecDepth 20000 in
set_option maxHeartbeats 4000000 in
theorem t_X3_isCovered_b2 {z : Sh9} {N : Nv9} {X : Cx9} {out : Out9 × Mem9} (C : OK9 z N X out 3 (co9 out.1) cX3_isCovered RX3 4 2 []) {r2 : Nat → Int32 → Int32 → Mem9 → Re9} (h2 : ∀ (x0 : Nat) (x1 : Int32) (x2 : Int32) (M : Mem9), J9 z N X out 3 2 [(0, .ref x0), (1, .int x1), (2, .int x2)] [] M (0, 0) (r2 x0 x1 x2 M)) (x0 : Nat) (x1 : Int32) (x2 : Int32) (M : Mem9) : J9 z N X out 3 2 [(0, .ref x0), (1, .int x1), (2, .int x2)] [] M (0, 0) (f_X3_isCovered_b2 z r2 x0 x1 x2 M) := by
  refine j_iload_n (pc := 2) C dX3_isCovered_2 rfl ?_
  refine j_aload_n (pc := 3) C dX3_isCovered_3 rfl ?_
  refine j_iload_n (pc := 4) C dX3_isCovered_4 rfl ?_
  refine j_iconst (pc := 5) C dX3_isCovered_5 (v := 0) rfl ?_
  refine j_callSi (pc := 6) C rfl dX3_isCovered_6 ls_X3_48 rfl (Nat.le_of_ble_eq_true rfl) (Nat.le_of_ble_eq_true rfl) (by decide) (Or.inl rfl) ⟨Nat.le_refl _, Nat.le_refl _⟩ (fun l hl o ho => sp_X3_of hl ho) (fun v2 M1 => ?_)
  refine j_icmp_ge (pc := 9) C dX3_isCovered_9 (tgt := 31) (by decide) (fun hc6 => ?_) (fun hc6 => ?_)
  · refine j_iconst (pc := 31) C dX3_isCovered_31 (v := 0) rfl ?_
    exact j_zreturn (pc := 32) C rfl dX3_isCovered_32 ⟨Nat.zero_le _, Nat.zero_le _⟩
  · refine j_aload_n (pc := 12) C dX3_isCovered_12 rfl ?_
    refine j_iload_n (pc := 13) C dX3_isCovered_13 rfl ?_
    refine j_iload_n (pc := 14) C dX3_isCovered_14 rfl ?_
    refine j_bipush (pc := 15) C dX3_isCovered_15 (v := 20) rfl ?_
    refine j_callSi (pc := 17) C rfl dX3_isCovered_17 ls_X3_63 rfl (Nat.le_of_ble_eq_true rfl) (Nat.le_of_ble_eq_true rfl) (by decide) (Or.inl rfl) ⟨Nat.le_refl _, Nat.le_refl _⟩ (fun l hl o ho => sp_X3_covers hl ho) (fun v4 M3 => ?_)
    refine j_if_eq (pc := 20) C dX3_isCovered_20 (tgt := 25) (by decide) (fun hc5 => ?_) (fun hc5 => ?_)
    · refine j_iinc (pc := 25) C dX3_isCovered_25 rfl (v := (x2 + (1 : Int32))) rfl (Nat.le_of_ble_eq_true rfl) (ls' := [(2, .int (x2 + (1 : Int32))), (0, .ref x0), (1, .int x1)]) rfl ?_
      refine j_goto (pc := 28) C dX3_isCovered_28 (tgt := 2) (by decide) ?_
      refine j_loc [1, 2, 0] rfl ?_
      exact h2 x0 x1 (x2 + (1 : Int32)) M3
    · refine j_iconst (pc := 23) C dX3_isCovered_23 (v := 1) rfl ?_
      exact j_zreturn (pc := 24) C rfl dX3_isCovered_24 ⟨Nat.zero_le _, Nat.zero_le _⟩
theorem t_X3_isCovered_l2 {z : Sh9} {N : Nv9} {X : Cx9} {out : Out9 × Mem9} (C : OK9 z N X out 3 (co9 out.1) cX3_isCovered RX3 4 2 [])  : ∀ (n : Nat) (x0 : Nat) (x1 : Int32) (x2 : Int32) (M : Mem9), J9 z N X out 3 2 [(0, .ref x0), (1, .int x1), (2, .int x2)] [] M (0, 0) (fx9 (fun _ _ _ _ => none) (f_X3_isCovered_b2 z ) n x0 x1 x2 M) := by
  intro n
  induction n with
  | zero => intro x0 x1 x2 M; exact j_none
  | succ n ih => intro x0 x1 x2 M; exact t_X3_isCovered_b2 C  ih x0 x1 x2 M
def f_X3_isCovered (z : Sh9) (a0 : Nat) (a1 : Int32) (M : Mem9) : Re9 :=
  (fx9 (fun _ _ _ _ => none) (f_X3_isCovered_b2 z ) FU9 a0 a1 (0 : Int32) M)
set_option maxRecDepth 20000 in
set_option maxHeartbeats 4000000 in
theorem t_X3_isCovered {z : Sh9} {N : Nv9} {X : Cx9} {out : Out9 × Mem9} (C : OK9 z N X out 3 (co9 out.1) cX3_isCovered RX3 4 2 []) (a0 : Nat) (a1 : Int32) (M : Mem9) : J9 z N X out 3 0 [(0, .ref a0), (1, .int a1)] [] M (0, 0) (f_X3_isCovered z a0 a1 M) := by
  refine j_iconst (pc := 0) C dX3_isCovered_0 (v := 0) rfl ?_
  refine j_istore_n (pc := 1) C dX3_isCovered_1 (Nat.le_of_ble_eq_true rfl) (ls' := [(2, .int (0 : Int32)), (0, .ref a0), (1, .int a1)]) rfl ?_
  refine j_loc [1, 2, 0] rfl ?_
  exact t_X3_isCovered_l2 C  FU9 a0 a1 (0 : Int32) M
theorem sp_X3_isCovered {l : Launch} {z : Sh9} {N : Nv9} {a0 : Nat} {a1 : Int32} {M : Mem9} {o : Out9 × Mem9} (hl : l.stackTraces = false) (h : f_X3_isCovered z a0 a1 M = some o) : Sp9 l z N yX3_isCovered (Cond.code yX3_isCovered cX3_isCovered 3 (some .boolean)) 4 [.ref a0, .int a1] M (co9 o.1) o :=
  sp9_of (rk := 2) (own := RX3) (by decide +kernel) rfl (Or.inr (Or.inr (Or.inl ⟨rfl, rfl⟩))) hl (Nat.le_of_ble_eq_true rfl) (fun X C => t_X3_isCovered C a0 a1 M) h
def f_X3_hit (z : Sh9) (a0 : Nat) (a1 : Int32) (M : Mem9) : Re9 :=
  (bi9 (f_X3_of z a0 a1 (5 : Int32) M) fun v2 M1 => (if v2 = 0 then (bi9 (f_X3_of z a0 a1 (1 : Int32) M1) fun v4 M3 => (if (4 : Int32) ≤ v4 then (rv9 M3) else (bi9 (f_X3_isCovered z a0 a1 M3) fun v6 M5 => (if v6 = 0 then (rv9 M5) else (bv9 (f_X3_lay z a0 a1 (5 : Int32) (1 : Int32) M5) fun M7 => ((ld9 z M7 10 a0 (5 : Int32)).bind fun v8 => ((st9 z M7 a0 (5 : Int32) (v8 + (1 : Int32))).bind fun M9 => (rv9 M9)))))))) else (rv9 M1)))
set_option maxRecDepth 20000 in
set_option maxHeartbeats 4000000 in
theorem t_X3_hit {z : Sh9} {N : Nv9} {X : Cx9} {out : Out9 × Mem9} (C : OK9 z N X out 2 (co9 out.1) cX3_hit RX3 5 0 []) (a0 : Nat) (a1 : Int32) (M : Mem9) : J9 z N X out 2 0 [(0, .ref a0), (1, .int a1)] [] M (0, 0) (f_X3_hit z a0 a1 M) := by
  refine j_aload_n (pc := 0) C dX3_hit_0 rfl ?_
  refine j_iload_n (pc := 1) C dX3_hit_1 rfl ?_
  refine j_iconst (pc := 2) C dX3_hit_2 (v := 5) rfl ?_
  refine j_callSi (pc := 3) C rfl dX3_hit_3 ls_X3_48 rfl (Nat.le_of_ble_eq_true rfl) (Nat.le_of_ble_eq_true rfl) (by decide) (Or.inl rfl) ⟨Nat.le_refl _, Nat.le_refl _⟩ (fun l hl o ho => sp_X3_of hl ho) (fun v2 M1 => ?_)
  refine j_if_ne (pc := 6) C dX3_hit_6 (tgt := 41) (by decide) (fun hc12 => ?_) (fun hc12 => ?_)
  · exact j_return (pc := 41) C rfl dX3_hit_41 ⟨Nat.zero_le _, Nat.zero_le _⟩
  · refine j_aload_n (pc := 9) C dX3_hit_9 rfl ?_
    refine j_iload_n (pc := 10) C dX3_hit_10 rfl ?_
    refine j_iconst (pc := 11) C dX3_hit_11 (v := 1) rfl ?_
    refine j_callSi (pc := 12) C rfl dX3_hit_12 ls_X3_48 rfl (Nat.le_of_ble_eq_true rfl) (Nat.le_of_ble_eq_true rfl) (by decide) (Or.inl rfl) ⟨Nat.le_refl _, Nat.le_refl _⟩ (fun l hl o ho => sp_X3_of hl ho) (fun v4 M3 => ?_)
    refine j_iconst (pc := 15) C dX3_hit_15 (v := 4) rfl ?_
    refine j_icmp_ge (pc := 16) C dX3_hit_16 (tgt := 41) (by decide) (fun hc11 => ?_) (fun hc11 => ?_)
    · exact j_return (pc := 41) C rfl dX3_hit_41 ⟨Nat.zero_le _, Nat.zero_le _⟩
    · refine j_aload_n (pc := 19) C dX3_hit_19 rfl ?_
      refine j_iload_n (pc := 20) C dX3_hit_20 rfl ?_
      refine j_callSi (pc := 21) C rfl dX3_hit_21 ls_X3_86 rfl (Nat.le_of_ble_eq_true rfl) (Nat.le_of_ble_eq_true rfl) (by decide) (Or.inl rfl) ⟨Nat.le_refl _, Nat.le_refl _⟩ (fun l hl o ho => sp_X3_isCovered hl ho) (fun v6 M5 => ?_)
      refine j_if_eq (pc := 24) C dX3_hit_24 (tgt := 41) (by decide) (fun hc10 => ?_) (fun hc10 => ?_)
      · exact j_return (pc := 41) C rfl dX3_hit_41 ⟨Nat.zero_le _, Nat.zero_le _⟩
      · refine j_aload_n (pc := 27) C dX3_hit_27 rfl ?_
        refine j_iload_n (pc := 28) C dX3_hit_28 rfl ?_
        refine j_iconst (pc := 29) C dX3_hit_29 (v := 5) rfl ?_
        refine j_iconst (pc := 30) C dX3_hit_30 (v := 1) rfl ?_
        refine j_callSv (pc := 31) C rfl dX3_hit_31 ls_X3_67 rfl (Nat.le_of_ble_eq_true rfl) (Nat.le_of_ble_eq_true rfl) (by decide) (Or.inl rfl) ⟨Nat.le_refl _, Nat.le_refl _⟩ (fun l hl o ho => sp_X3_lay hl ho) (fun M7 => ?_)
        refine j_aload_n (pc := 34) C dX3_hit_34 rfl ?_
        refine j_iconst (pc := 35) C dX3_hit_35 (v := 5) rfl ?_
        refine j_dup2_11 (pc := 36) C dX3_hit_36 rfl rfl ?_
        refine j_iaload (pc := 37) C dX3_hit_37 (fun v8 => ?_)
        refine j_iconst (pc := 38) C dX3_hit_38 (v := 1) rfl ?_
        refine j_iadd (pc := 39) C dX3_hit_39 ?_
        refine j_iastore (pc := 40) C dX3_hit_40 (fun M9 => ?_)
        exact j_return (pc := 41) C rfl dX3_hit_41 ⟨Nat.zero_le _, Nat.zero_le _⟩
theorem sp_X3_hit {l : Launch} {z : Sh9} {N : Nv9} {a0 : Nat} {a1 : Int32} {M : Mem9} {o : Out9 × Mem9} (hl : l.stackTraces = false) (h : f_X3_hit z a0 a1 M = some o) : Sp9 l z N yX3_hit (Cond.code yX3_hit cX3_hit 2 none) 5 [.ref a0, .int a1] M (co9 o.1) o :=
  sp9_of (rk := 0) (own := RX3) (by decide +kernel) rfl (Or.inl ⟨rfl, rfl⟩) hl (Nat.le_of_ble_eq_true rfl) (fun X C => t_X3_hit C a0 a1 M) h
def f_X3_canMove_b28 (z : Sh9)  (x0 : Nat) (x1 : Int32) (x2 : Int32) (x3 : Int32) (M : Mem9) : Re9 :=
  (if x3 = (19 : Int32) then (bi9 (f_X3_of z x0 x1 (1 : Int32) M) fun v8 M7 => (if v8 = (4 : Int32) then (bi9 (f_X3_told z x0 x1 x2 (4 : Int32) M7) fun v10 M9 => (if v10 = (1 : Int32) then (rz9 (1 : Int32) M9) else (bi9 (f_X3_told z x0 x1 x2 (3 : Int32) M9) fun v12 M11 => (if v12 = (1 : Int32) then (rz9 (1 : Int32) M11) else (rz9 (0 : Int32) M11))))) else (rz9 (0 : Int32) M7))) else (rz9 (1 : Int32) M))
set_option maxRecDepth 20000 in
set_option maxHeartbeats 4000000 in
theorem t_X3_canMove_b28 {z : Sh9} {N : Nv9} {X : Cx9} {out : Out9 × Mem9} (C : OK9 z N X out 4 (co9 out.1) cX3_canMove RX3 3 2 [])  (x0 : Nat) (x1 : Int32) (x2 : Int32) (x3 : Int32) (M : Mem9) : J9 z N X out 4 28 [(0, .ref x0), (1, .int x1), (2, .int x2), (3, .int x3)] [] M (0, 0) (f_X3_canMove_b28 z  x0 x1 x2 x3 M) := by
  refine j_iload_n (pc := 28) C dX3_canMove_28 rfl ?_
  refine j_bipush (pc := 29) C dX3_canMove_29 (v := 19) rfl ?_
  refine j_icmp_ne (pc := 31) C dX3_canMove_31 (tgt := 66) (by decide) (fun hc16 => ?_) (fun hc16 => ?_)
  · refine j_iconst (pc := 66) C dX3_canMove_66 (v := 1) rfl ?_
    refine j_goto (pc := 67) C dX3_canMove_67 (tgt := 71) (by decide) ?_
    exact j_zreturn (pc := 71) C rfl dX3_canMove_71 ⟨Nat.zero_le _, Nat.zero_le _⟩
  · refine j_aload_n (pc := 34) C dX3_canMove_34 rfl ?_
    refine j_iload_n (pc := 35) C dX3_canMove_35 rfl ?_
    refine j_iconst (pc := 36) C dX3_canMove_36 (v := 1) rfl ?_
    refine j_callSi (pc := 37) C rfl dX3_canMove_37 ls_X3_48 rfl (Nat.le_of_ble_eq_true rfl) (Nat.le_of_ble_eq_true rfl) (by decide) (Or.inl rfl) ⟨Nat.le_refl _, Nat.le_refl _⟩ (fun l hl o ho => sp_X3_of hl ho) (fun v8 M7 => ?_)
    refine j_iconst (pc := 40) C dX3_canMove_40 (v := 4) rfl ?_
    refine j_icmp_ne (pc := 41) C dX3_canMove_41 (tgt := 70) (by decide) (fun hc15 => ?_) (fun hc15 => ?_)
    · refine j_iconst (pc := 70) C dX3_canMove_70 (v := 0) rfl ?_
      exact j_zreturn (pc := 71) C rfl dX3_canMove_71 ⟨Nat.zero_le _, Nat.zero_le _⟩
    · refine j_aload_n (pc := 44) C dX3_canMove_44 rfl ?_
      refine j_iload_n (pc := 45) C dX3_canMove_45 rfl ?_
      refine j_iload_n (pc := 46) C dX3_canMove_46 rfl ?_
      refine j_iconst (pc := 47) C dX3_canMove_47 (v := 4) rfl ?_
      refine j_callSi (pc := 48) C rfl dX3_canMove_48 ls_X3_56 rfl (Nat.le_of_ble_eq_true rfl) (Nat.le_of_ble_eq_true rfl) (by decide) (Or.inl rfl) ⟨Nat.le_refl _, Nat.le_refl _⟩ (fun l hl o ho => sp_X3_told hl ho) (fun v10 M9 => ?_)
      refine j_iconst (pc := 51) C dX3_canMove_51 (v := 1) rfl ?_
      refine j_icmp_eq (pc := 52) C dX3_canMove_52 (tgt := 66) (by decide) (fun hc14 => ?_) (fun hc14 => ?_)
      · refine j_iconst (pc := 66) C dX3_canMove_66 (v := 1) rfl ?_
        refine j_goto (pc := 67) C dX3_canMove_67 (tgt := 71) (by decide) ?_
        exact j_zreturn (pc := 71) C rfl dX3_canMove_71 ⟨Nat.zero_le _, Nat.zero_le _⟩
      · refine j_aload_n (pc := 55) C dX3_canMove_55 rfl ?_
        refine j_iload_n (pc := 56) C dX3_canMove_56 rfl ?_
        refine j_iload_n (pc := 57) C dX3_canMove_57 rfl ?_
        refine j_iconst (pc := 58) C dX3_canMove_58 (v := 3) rfl ?_
        refine j_callSi (pc := 59) C rfl dX3_canMove_59 ls_X3_56 rfl (Nat.le_of_ble_eq_true rfl) (Nat.le_of_ble_eq_true rfl) (by decide) (Or.inl rfl) ⟨Nat.le_refl _, Nat.le_refl _⟩ (fun l hl o ho => sp_X3_told hl ho) (fun v12 M11 => ?_)
        refine j_iconst (pc := 62) C dX3_canMove_62 (v := 1) rfl ?_
        refine j_icmp_ne (pc := 63) C dX3_canMove_63 (tgt := 70) (by decide) (fun hc13 => ?_) (fun hc13 => ?_)
        · refine j_iconst (pc := 70) C dX3_canMove_70 (v := 0) rfl ?_
          exact j_zreturn (pc := 71) C rfl dX3_canMove_71 ⟨Nat.zero_le _, Nat.zero_le _⟩
        · refine j_iconst (pc := 66) C dX3_canMove_66 (v := 1) rfl ?_
          refine j_goto (pc := 67) C dX3_canMove_67 (tgt := 71) (by decide) ?_
          exact j_zreturn (pc := 71) C rfl dX3_canMove_71 ⟨Nat.zero_le _, Nat.zero_le _⟩
def f_X3_canMove (z : Sh9) (a0 : Nat) (a1 : Int32) (a2 : Int32) (M : Mem9) : Re9 :=
  (bi9 (f_X3_told z a0 a1 a2 (1 : Int32) M) fun v2 M1 => (if a2 ≤ 0 then (f_X3_canMove_b28 z  a0 a1 a2 v2 M1) else (bi9 (f_X3_last z a0 a1 (a2 - (1 : Int32)) M1) fun v4 M3 => (if (v2 + (2 : Int32)) ≤ v4 then (f_X3_canMove_b28 z  a0 a1 a2 v2 M3) else (rz9 (0 : Int32) M3)))))
set_option maxRecDepth 20000 in
set_option maxHeartbeats 4000000 in
theorem t_X3_canMove {z : Sh9} {N : Nv9} {X : Cx9} {out : Out9 × Mem9} (C : OK9 z N X out 4 (co9 out.1) cX3_canMove RX3 3 2 []) (a0 : Nat) (a1 : Int32) (a2 : Int32) (M : Mem9) : J9 z N X out 4 0 [(0, .ref a0), (1, .int a1), (2, .int a2)] [] M (0, 0) (f_X3_canMove z a0 a1 a2 M) := by
  refine j_aload_n (pc := 0) C dX3_canMove_0 rfl ?_
  refine j_iload_n (pc := 1) C dX3_canMove_1 rfl ?_
  refine j_iload_n (pc := 2) C dX3_canMove_2 rfl ?_
  refine j_iconst (pc := 3) C dX3_canMove_3 (v := 1) rfl ?_
  refine j_callSi (pc := 4) C rfl dX3_canMove_4 ls_X3_56 rfl (Nat.le_of_ble_eq_true rfl) (Nat.le_of_ble_eq_true rfl) (by decide) (Or.inl rfl) ⟨Nat.le_refl _, Nat.le_refl _⟩ (fun l hl o ho => sp_X3_told hl ho) (fun v2 M1 => ?_)
  refine j_istore_n (pc := 7) C dX3_canMove_7 (Nat.le_of_ble_eq_true rfl) (ls' := [(3, .int v2), (0, .ref a0), (1, .int a1), (2, .int a2)]) rfl ?_
  refine j_iload_n (pc := 8) C dX3_canMove_8 rfl ?_
  refine j_if_le (pc := 9) C dX3_canMove_9 (tgt := 28) (by decide) (fun hc6 => ?_) (fun hc6 => ?_)
  · refine j_loc [1, 2, 3, 0] rfl ?_
    exact t_X3_canMove_b28 C  a0 a1 a2 v2 M1
  · refine j_aload_n (pc := 12) C dX3_canMove_12 rfl ?_
    refine j_iload_n (pc := 13) C dX3_canMove_13 rfl ?_
    refine j_iload_n (pc := 14) C dX3_canMove_14 rfl ?_
    refine j_iconst (pc := 15) C dX3_canMove_15 (v := 1) rfl ?_
    refine j_isub (pc := 16) C dX3_canMove_16 ?_
    refine j_callSi (pc := 17) C rfl dX3_canMove_17 ls_X3_60 rfl (Nat.le_of_ble_eq_true rfl) (Nat.le_of_ble_eq_true rfl) (by decide) (Or.inl rfl) ⟨Nat.le_refl _, Nat.le_refl _⟩ (fun l hl o ho => sp_X3_last hl ho) (fun v4 M3 => ?_)
    refine j_iload_n (pc := 20) C dX3_canMove_20 rfl ?_
    refine j_iconst (pc := 21) C dX3_canMove_21 (v := 2) rfl ?_
    refine j_iadd (pc := 22) C dX3_canMove_22 ?_
    refine j_icmp_ge (pc := 23) C dX3_canMove_23 (tgt := 28) (by decide) (fun hc5 => ?_) (fun hc5 => ?_)
    · refine j_loc [1, 2, 3, 0] rfl ?_
      exact t_X3_canMove_b28 C  a0 a1 a2 v2 M3
    · refine j_iconst (pc := 26) C dX3_canMove_26 (v := 0) rfl ?_
      exact j_zreturn (pc := 27) C rfl dX3_canMove_27 ⟨Nat.zero_le _, Nat.zero_le _⟩
theorem sp_X3_canMove {l : Launch} {z : Sh9} {N : Nv9} {a0 : Nat} {a1 : Int32} {a2 : Int32} {M : Mem9} {o : Out9 × Mem9} (hl : l.stackTraces = false) (h : f_X3_canMove z a0 a1 a2 M = some o) : Sp9 l z N yX3_canMove (Cond.code yX3_canMove cX3_canMove 4 (some .boolean)) 3 [.ref a0, .int a1, .int a2] M (co9 o.1) o :=
  sp9_of (rk := 2) (own := RX3) (by decide +kernel) rfl (Or.inr (Or.inr (Or.inl ⟨rfl, rfl⟩))) hl (Nat.le_of_ble_eq_true rfl) (fun X C => t_X3_canMove C a0 a1 a2 M) h
def f_X3_dropFirst_b17 (z : Sh9) (r17 : Nat → Int32 → Int32 → Mem9 → Re9) (x0 : Nat) (x1 : Int32) (x2 : Int32) (M : Mem9) : Re9 :=
  (bi9 (f_X3_of z x0 x1 (0 : Int32) M) fun v5 M4 => (if ((7 : Int32) + ((5 : Int32) * v5)) ≤ x2 then (rv9 M4) else (bi9 (f_X3_of z x0 x1 (x2 + (5 : Int32)) M4) fun v7 M6 => (bv9 (f_X3_lay z x0 x1 x2 v7 M6) fun M8 => (r17 x0 x1 (x2 + (1 : Int32)) M8)))))
set_option maxRecDepth 20000 in
set_option maxHeartbeats 4000000 in
theorem t_X3_dropFirst_b17 {z : Sh9} {N : Nv9} {X : Cx9} {out : Out9 × Mem9} (C : OK9 z N X out 3 (co9 out.1) cX3_dropFirst RX3 1 0 []) {r17 : Nat → Int32 → Int32 → Mem9 → Re9} (h17 : ∀ (x0 : Nat) (x1 : Int32) (x2 : Int32) (M : Mem9), J9 z N X out 3 17 [(0, .ref x0), (1, .int x1), (2, .int x2)] [] M (0, 0) (r17 x0 x1 x2 M)) (x0 : Nat) (x1 : Int32) (x2 : Int32) (M : Mem9) : J9 z N X out 3 17 [(0, .ref x0), (1, .int x1), (2, .int x2)] [] M (0, 0) (f_X3_dropFirst_b17 z r17 x0 x1 x2 M) := by
  refine j_iload_n (pc := 17) C dX3_dropFirst_17 rfl ?_
  refine j_bipush (pc := 18) C dX3_dropFirst_18 (v := 7) rfl ?_
  refine j_iconst (pc := 20) C dX3_dropFirst_20 (v := 5) rfl ?_
  refine j_aload_n (pc := 21) C dX3_dropFirst_21 rfl ?_
  refine j_iload_n (pc := 22) C dX3_dropFirst_22 rfl ?_
  refine j_iconst (pc := 23) C dX3_dropFirst_23 (v := 0) rfl ?_
  refine j_callSi (pc := 24) C rfl dX3_dropFirst_24 ls_X3_48 rfl (Nat.le_of_ble_eq_true rfl) (Nat.le_of_ble_eq_true rfl) (by decide) (Or.inl rfl) ⟨Nat.le_refl _, Nat.le_refl _⟩ (fun l hl o ho => sp_X3_of hl ho) (fun v5 M4 => ?_)
  refine j_imul (pc := 27) C dX3_dropFirst_27 ?_
  refine j_iadd (pc := 28) C dX3_dropFirst_28 ?_
  refine j_icmp_ge (pc := 29) C dX3_dropFirst_29 (tgt := 52) (by decide) (fun hc9 => ?_) (fun hc9 => ?_)
  · exact j_return (pc := 52) C rfl dX3_dropFirst_52 ⟨Nat.zero_le _, Nat.zero_le _⟩
  · refine j_aload_n (pc := 32) C dX3_dropFirst_32 rfl ?_
    refine j_iload_n (pc := 33) C dX3_dropFirst_33 rfl ?_
    refine j_iload_n (pc := 34) C dX3_dropFirst_34 rfl ?_
    refine j_aload_n (pc := 35) C dX3_dropFirst_35 rfl ?_
    refine j_iload_n (pc := 36) C dX3_dropFirst_36 rfl ?_
    refine j_iload_n (pc := 37) C dX3_dropFirst_37 rfl ?_
    refine j_iconst (pc := 38) C dX3_dropFirst_38 (v := 5) rfl ?_
    refine j_iadd (pc := 39) C dX3_dropFirst_39 ?_
    refine j_callSi (pc := 40) C rfl dX3_dropFirst_40 ls_X3_48 rfl (Nat.le_of_ble_eq_true rfl) (Nat.le_of_ble_eq_true rfl) (by decide) (Or.inl rfl) ⟨Nat.le_refl _, Nat.le_refl _⟩ (fun l hl o ho => sp_X3_of hl ho) (fun v7 M6 => ?_)
    refine j_callSv (pc := 43) C rfl dX3_dropFirst_43 ls_X3_67 rfl (Nat.le_of_ble_eq_true rfl) (Nat.le_of_ble_eq_true rfl) (by decide) (Or.inl rfl) ⟨Nat.le_refl _, Nat.le_refl _⟩ (fun l hl o ho => sp_X3_lay hl ho) (fun M8 => ?_)
    refine j_iinc (pc := 46) C dX3_dropFirst_46 rfl (v := (x2 + (1 : Int32))) rfl (Nat.le_of_ble_eq_true rfl) (ls' := [(2, .int (x2 + (1 : Int32))), (0, .ref x0), (1, .int x1)]) rfl ?_
    refine j_goto (pc := 49) C dX3_dropFirst_49 (tgt := 17) (by decide) ?_
    refine j_loc [1, 2, 0] rfl ?_
    exact h17 x0 x1 (x2 + (1 : Int32)) M8
theorem t_X3_dropFirst_l17 {z : Sh9} {N : Nv9} {X : Cx9} {out : Out9 × Mem9} (C : OK9 z N X out 3 (co9 out.1) cX3_dropFirst RX3 1 0 [])  : ∀ (n : Nat) (x0 : Nat) (x1 : Int32) (x2 : Int32) (M : Mem9), J9 z N X out 3 17 [(0, .ref x0), (1, .int x1), (2, .int x2)] [] M (0, 0) (fx9 (fun _ _ _ _ => none) (f_X3_dropFirst_b17 z ) n x0 x1 x2 M) := by
  intro n
  induction n with
  | zero => intro x0 x1 x2 M; exact j_none
  | succ n ih => intro x0 x1 x2 M; exact t_X3_dropFirst_b17 C  ih x0 x1 x2 M
def f_X3_dropFirst (z : Sh9) (a0 : Nat) (a1 : Int32) (M : Mem9) : Re9 :=
  (bi9 (f_X3_of z a0 a1 (0 : Int32) M) fun v2 M1 => (bv9 (f_X3_lay z a0 a1 (0 : Int32) (v2 - (1 : Int32)) M1) fun M3 => (fx9 (fun _ _ _ _ => none) (f_X3_dropFirst_b17 z ) FU9 a0 a1 (7 : Int32) M3)))
set_option maxRecDepth 20000 in
set_option maxHeartbeats 4000000 in
theorem t_X3_dropFirst {z : Sh9} {N : Nv9} {X : Cx9} {out : Out9 × Mem9} (C : OK9 z N X out 3 (co9 out.1) cX3_dropFirst RX3 1 0 []) (a0 : Nat) (a1 : Int32) (M : Mem9) : J9 z N X out 3 0 [(0, .ref a0), (1, .int a1)] [] M (0, 0) (f_X3_dropFirst z a0 a1 M) := by
  refine j_aload_n (pc := 0) C dX3_dropFirst_0 rfl ?_
  refine j_iload_n (pc := 1) C dX3_dropFirst_1 rfl ?_
  refine j_iconst (pc := 2) C dX3_dropFirst_2 (v := 0) rfl ?_
  refine j_aload_n (pc := 3) C dX3_dropFirst_3 rfl ?_
  refine j_iload_n (pc := 4) C dX3_dropFirst_4 rfl ?_
  refine j_iconst (pc := 5) C dX3_dropFirst_5 (v := 0) rfl ?_
  refine j_callSi (pc := 6) C rfl dX3_dropFirst_6 ls_X3_48 rfl (Nat.le_of_ble_eq_true rfl) (Nat.le_of_ble_eq_true rfl) (by decide) (Or.inl rfl) ⟨Nat.le_refl _, Nat.le_refl _⟩ (fun l hl o ho => sp_X3_of hl ho) (fun v2 M1 => ?_)
  refine j_iconst (pc := 9) C dX3_dropFirst_9 (v := 1) rfl ?_
  refine j_isub (pc := 10) C dX3_dropFirst_10 ?_
  refine j_callSv (pc := 11) C rfl dX3_dropFirst_11 ls_X3_67 rfl (Nat.le_of_ble_eq_true rfl) (Nat.le_of_ble_eq_true rfl) (by decide) (Or.inl rfl) ⟨Nat.le_refl _, Nat.le_refl _⟩ (fun l hl o ho => sp_X3_lay hl ho) (fun M3 => ?_)
  refine j_bipush (pc := 14) C dX3_dropFirst_14 (v := 7) rfl ?_
  refine j_istore_n (pc := 16) C dX3_dropFirst_16 (Nat.le_of_ble_eq_true rfl) (ls' := [(2, .int (7 : Int32)), (0, .ref a0), (1, .int a1)]) rfl ?_
  refine j_loc [1, 2, 0] rfl ?_
  exact t_X3_dropFirst_l17 C  FU9 a0 a1 (7 : Int32) M3
theorem sp_X3_dropFirst {l : Launch} {z : Sh9} {N : Nv9} {a0 : Nat} {a1 : Int32} {M : Mem9} {o : Out9 × Mem9} (hl : l.stackTraces = false) (h : f_X3_dropFirst z a0 a1 M = some o) : Sp9 l z N yX3_dropFirst (Cond.code yX3_dropFirst cX3_dropFirst 3 none) 1 [.ref a0, .int a1] M (co9 o.1) o :=
  sp9_of (rk := 0) (own := RX3) (by decide +kernel) rfl (Or.inl ⟨rfl, rfl⟩) hl (Nat.le_of_ble_eq_true rfl) (fun X C => t_X3_dropFirst C a0 a1 M) h
def f_X3_moveAll_b96 (z : Sh9) (r96 : Nat → Nat → Int32 → Int32 → Mem9 → Re9) (x0 : Nat) (x1 : Nat) (x2 : Int32) (x3 : Int32) (M : Mem9) : Re9 :=
  (bi9 (f_X3_of z x1 x2 (0 : Int32) M) fun v25 M24 => (if v25 ≤ x3 then (rv9 M24) else ((rf9 z x0 3 7).bind fun v26 => ((rf9 z x0 3 7).bind fun v27 => ((ld9 z M24 11 v27 (x3 + (1 : Int32))).bind fun v28 => ((sz9 z M24 v26 x3 v28).bind fun M29 => (r96 x0 x1 x2 (x3 + (1 : Int32)) M29)))))))
set_option maxRecDepth 20000 in
set_option maxHeartbeats 4000000 in
theorem t_X3_moveAll_b96 {z : Sh9} {N : Nv9} {X : Cx9} {out : Out9 × Mem9} (C : OK9 z N X out 4 (co9 out.1) cX3_moveAll RX3 4 0 []) {r96 : Nat → Nat → Int32 → Int32 → Mem9 → Re9} (h96 : ∀ (x0 : Nat) (x1 : Nat) (x2 : Int32) (x3 : Int32) (M : Mem9), J9 z N X out 4 96 [(0, .ref x0), (1, .ref x1), (2, .int x2), (3, .int x3)] [] M (0, 0) (r96 x0 x1 x2 x3 M)) (x0 : Nat) (x1 : Nat) (x2 : Int32) (x3 : Int32) (M : Mem9) : J9 z N X out 4 96 [(0, .ref x0), (1, .ref x1), (2, .int x2), (3, .int x3)] [] M (0, 0) (f_X3_moveAll_b96 z r96 x0 x1 x2 x3 M) := by
  refine j_iload_n (pc := 96) C dX3_moveAll_96 rfl ?_
  refine j_aload_n (pc := 97) C dX3_moveAll_97 rfl ?_
  refine j_iload_n (pc := 98) C dX3_moveAll_98 rfl ?_
  refine j_iconst (pc := 99) C dX3_moveAll_99 (v := 0) rfl ?_
  refine j_callSi (pc := 100) C rfl dX3_moveAll_100 ls_X3_48 rfl (Nat.le_of_ble_eq_true rfl) (Nat.le_of_ble_eq_true rfl) (by decide) (Or.inl rfl) ⟨Nat.le_refl _, Nat.le_refl _⟩ (fun l hl o ho => sp_X3_of hl ho) (fun v25 M24 => ?_)
  refine j_icmp_ge (pc := 103) C dX3_moveAll_103 (tgt := 126) (by decide) (fun hc30 => ?_) (fun hc30 => ?_)
  · exact j_return (pc := 126) C rfl dX3_moveAll_126 ⟨Nat.zero_le _, Nat.zero_le _⟩
  · refine j_aload_n (pc := 106) C dX3_moveAll_106 rfl ?_
    refine j_getR (pc := 107) C dX3_moveAll_107 fl_X3_29 fr_X3_9 (fun v26 => ?_)
    refine j_iload_n (pc := 110) C dX3_moveAll_110 rfl ?_
    refine j_aload_n (pc := 111) C dX3_moveAll_111 rfl ?_
    refine j_getR (pc := 112) C dX3_moveAll_112 fl_X3_29 fr_X3_9 (fun v27 => ?_)
    refine j_iload_n (pc := 115) C dX3_moveAll_115 rfl ?_
    refine j_iconst (pc := 116) C dX3_moveAll_116 (v := 1) rfl ?_
    refine j_iadd (pc := 117) C dX3_moveAll_117 ?_
    refine j_baload (pc := 118) C dX3_moveAll_118 (fun v28 => ?_)
    refine j_bastore (pc := 119) C dX3_moveAll_119 (fun M29 => ?_)
    refine j_iinc (pc := 120) C dX3_moveAll_120 rfl (v := (x3 + (1 : Int32))) rfl (Nat.le_of_ble_eq_true rfl) (ls' := [(3, .int (x3 + (1 : Int32))), (0, .ref x0), (1, .ref x1), (2, .int x2)]) rfl ?_
    refine j_goto (pc := 123) C dX3_moveAll_123 (tgt := 96) (by decide) ?_
    refine j_loc [1, 2, 3, 0] rfl ?_
    exact h96 x0 x1 x2 (x3 + (1 : Int32)) M29
theorem t_X3_moveAll_l96 {z : Sh9} {N : Nv9} {X : Cx9} {out : Out9 × Mem9} (C : OK9 z N X out 4 (co9 out.1) cX3_moveAll RX3 4 0 [])  : ∀ (n : Nat) (x0 : Nat) (x1 : Nat) (x2 : Int32) (x3 : Int32) (M : Mem9), J9 z N X out 4 96 [(0, .ref x0), (1, .ref x1), (2, .int x2), (3, .int x3)] [] M (0, 0) (fx9 (fun _ _ _ _ _ => none) (f_X3_moveAll_b96 z ) n x0 x1 x2 x3 M) := by
  intro n
  induction n with
  | zero => intro x0 x1 x2 x3 M; exact j_none
  | succ n ih => intro x0 x1 x2 x3 M; exact t_X3_moveAll_b96 C  ih x0 x1 x2 x3 M
def f_X3_moveAll_b52 (z : Sh9) (r2 : Nat → Nat → Int32 → Int32 → Mem9 → Re9) (x0 : Nat) (x1 : Nat) (x2 : Int32) (x3 : Int32) (s0 : Int32) (s1 : Int32) (s2 : Int32) (s3 : Int32) (s4 : Nat) (M : Mem9) : Re9 :=
  (bv9 (f_X3_lay z s4 s3 s2 (s1 + s0) M) fun M31 => (r2 x0 x1 x2 (x3 + (1 : Int32)) M31))
set_option maxRecDepth 20000 in
set_option maxHeartbeats 4000000 in
theorem t_X3_moveAll_b52 {z : Sh9} {N : Nv9} {X : Cx9} {out : Out9 × Mem9} (C : OK9 z N X out 4 (co9 out.1) cX3_moveAll RX3 4 0 []) {r2 : Nat → Nat → Int32 → Int32 → Mem9 → Re9} (h2 : ∀ (x0 : Nat) (x1 : Nat) (x2 : Int32) (x3 : Int32) (M : Mem9), J9 z N X out 4 2 [(0, .ref x0), (1, .ref x1), (2, .int x2), (3, .int x3)] [] M (0, 0) (r2 x0 x1 x2 x3 M)) (x0 : Nat) (x1 : Nat) (x2 : Int32) (x3 : Int32) (s0 : Int32) (s1 : Int32) (s2 : Int32) (s3 : Int32) (s4 : Nat) (M : Mem9) : J9 z N X out 4 52 [(0, .ref x0), (1, .ref x1), (2, .int x2), (3, .int x3)] [.int s0, .int s1, .int s2, .int s3, .ref s4] M (0, 0) (f_X3_moveAll_b52 z r2 x0 x1 x2 x3 s0 s1 s2 s3 s4 M) := by
  refine j_iadd (pc := 52) C dX3_moveAll_52 ?_
  refine j_callSv (pc := 53) C rfl dX3_moveAll_53 ls_X3_67 rfl (Nat.le_of_ble_eq_true rfl) (Nat.le_of_ble_eq_true rfl) (by decide) (Or.inl rfl) ⟨Nat.le_refl _, Nat.le_refl _⟩ (fun l hl o ho => sp_X3_lay hl ho) (fun M31 => ?_)
  refine j_iinc (pc := 56) C dX3_moveAll_56 rfl (v := (x3 + (1 : Int32))) rfl (Nat.le_of_ble_eq_true rfl) (ls' := [(3, .int (x3 + (1 : Int32))), (0, .ref x0), (1, .ref x1), (2, .int x2)]) rfl ?_
  refine j_goto (pc := 59) C dX3_moveAll_59 (tgt := 2) (by decide) ?_
  refine j_loc [1, 2, 3, 0] rfl ?_
  exact h2 x0 x1 x2 (x3 + (1 : Int32)) M31
def f_X3_moveAll_b2 (z : Sh9) (r2 : Nat → Nat → Int32 → Int32 → Mem9 → Re9) (x0 : Nat) (x1 : Nat) (x2 : Int32) (x3 : Int32) (M : Mem9) : Re9 :=
  (bi9 (f_X3_of z x1 x2 (0 : Int32) M) fun v2 M1 => (if v2 ≤ x3 then (bi9 (f_X3_of z x1 x2 (0 : Int32) M1) fun v4 M3 => (if v4 ≤ 0 then (rv9 M3) else (bi9 (f_X3_last z x1 x2 (0 : Int32) M3) fun v6 M5 => (if v6 ≤ (39 : Int32) then (rv9 M5) else (bv9 (f_X3_dropFirst z x1 x2 M5) fun M7 => ((ld9 z M7 10 x1 (2 : Int32)).bind fun v8 => ((st9 z M7 x1 (2 : Int32) (v8 + (1 : Int32))).bind fun M9 => (fx9 (fun _ _ _ _ _ => none) (f_X3_moveAll_b96 z ) FU9 x0 x1 x2 (0 : Int32) M9)))))))) else ((rf9 z x0 3 7).bind fun v12 => (bi9 (f_X3_canMove z x1 x2 x3 M1) fun v14 M13 => ((sz9 z M13 v12 x3 v14).bind fun M15 => (bi9 (f_X3_place z x3 (1 : Int32) M15) fun v17 M16 => (bi9 (f_X3_told z x1 x2 x3 (1 : Int32) M16) fun v19 M18 => ((rf9 z x0 3 7).bind fun v20 => ((ld9 z M18 11 v20 x3).bind fun v21 => (if v21 = 0 then (f_X3_moveAll_b52 z r2 x0 x1 x2 x3 (0 : Int32) v19 v17 x2 x1 M18) else (f_X3_moveAll_b52 z r2 x0 x1 x2 x3 (1 : Int32) v19 v17 x2 x1 M18)))))))))))
set_option maxRecDepth 20000 in
set_option maxHeartbeats 4000000 in
theorem t_X3_moveAll_b2 {z : Sh9} {N : Nv9} {X : Cx9} {out : Out9 × Mem9} (C : OK9 z N X out 4 (co9 out.1) cX3_moveAll RX3 4 0 []) {r2 : Nat → Nat → Int32 → Int32 → Mem9 → Re9} (h2 : ∀ (x0 : Nat) (x1 : Nat) (x2 : Int32) (x3 : Int32) (M : Mem9), J9 z N X out 4 2 [(0, .ref x0), (1, .ref x1), (2, .int x2), (3, .int x3)] [] M (0, 0) (r2 x0 x1 x2 x3 M)) (x0 : Nat) (x1 : Nat) (x2 : Int32) (x3 : Int32) (M : Mem9) : J9 z N X out 4 2 [(0, .ref x0), (1, .ref x1), (2, .int x2), (3, .int x3)] [] M (0, 0) (f_X3_moveAll_b2 z r2 x0 x1 x2 x3 M) := by
  refine j_iload_n (pc := 2) C dX3_moveAll_2 rfl ?_
  refine j_aload_n (pc := 3) C dX3_moveAll_3 rfl ?_
  refine j_iload_n (pc := 4) C dX3_moveAll_4 rfl ?_
  refine j_iconst (pc := 5) C dX3_moveAll_5 (v := 0) rfl ?_
  refine j_callSi (pc := 6) C rfl dX3_moveAll_6 ls_X3_48 rfl (Nat.le_of_ble_eq_true rfl) (Nat.le_of_ble_eq_true rfl) (by decide) (Or.inl rfl) ⟨Nat.le_refl _, Nat.le_refl _⟩ (fun l hl o ho => sp_X3_of hl ho) (fun v2 M1 => ?_)
  refine j_icmp_ge (pc := 9) C dX3_moveAll_9 (tgt := 62) (by decide) (fun hc23 => ?_) (fun hc23 => ?_)
  · refine j_aload_n (pc := 62) C dX3_moveAll_62 rfl ?_
    refine j_iload_n (pc := 63) C dX3_moveAll_63 rfl ?_
    refine j_iconst (pc := 64) C dX3_moveAll_64 (v := 0) rfl ?_
    refine j_callSi (pc := 65) C rfl dX3_moveAll_65 ls_X3_48 rfl (Nat.le_of_ble_eq_true rfl) (Nat.le_of_ble_eq_true rfl) (by decide) (Or.inl rfl) ⟨Nat.le_refl _, Nat.le_refl _⟩ (fun l hl o ho => sp_X3_of hl ho) (fun v4 M3 => ?_)
    refine j_if_le (pc := 68) C dX3_moveAll_68 (tgt := 126) (by decide) (fun hc11 => ?_) (fun hc11 => ?_)
    · exact j_return (pc := 126) C rfl dX3_moveAll_126 ⟨Nat.zero_le _, Nat.zero_le _⟩
    · refine j_aload_n (pc := 71) C dX3_moveAll_71 rfl ?_
      refine j_iload_n (pc := 72) C dX3_moveAll_72 rfl ?_
      refine j_iconst (pc := 73) C dX3_moveAll_73 (v := 0) rfl ?_
      refine j_callSi (pc := 74) C rfl dX3_moveAll_74 ls_X3_60 rfl (Nat.le_of_ble_eq_true rfl) (Nat.le_of_ble_eq_true rfl) (by decide) (Or.inl rfl) ⟨Nat.le_refl _, Nat.le_refl _⟩ (fun l hl o ho => sp_X3_last hl ho) (fun v6 M5 => ?_)
      refine j_bipush (pc := 77) C dX3_moveAll_77 (v := 39) rfl ?_
      refine j_icmp_le (pc := 79) C dX3_moveAll_79 (tgt := 126) (by decide) (fun hc10 => ?_) (fun hc10 => ?_)
      · exact j_return (pc := 126) C rfl dX3_moveAll_126 ⟨Nat.zero_le _, Nat.zero_le _⟩
      · refine j_aload_n (pc := 82) C dX3_moveAll_82 rfl ?_
        refine j_iload_n (pc := 83) C dX3_moveAll_83 rfl ?_
        refine j_callSv (pc := 84) C rfl dX3_moveAll_84 ls_X3_75 rfl (Nat.le_of_ble_eq_true rfl) (Nat.le_of_ble_eq_true rfl) (by decide) (Or.inl rfl) ⟨Nat.le_refl _, Nat.le_refl _⟩ (fun l hl o ho => sp_X3_dropFirst hl ho) (fun M7 => ?_)
        refine j_aload_n (pc := 87) C dX3_moveAll_87 rfl ?_
        refine j_iconst (pc := 88) C dX3_moveAll_88 (v := 2) rfl ?_
        refine j_dup2_11 (pc := 89) C dX3_moveAll_89 rfl rfl ?_
        refine j_iaload (pc := 90) C dX3_moveAll_90 (fun v8 => ?_)
        refine j_iconst (pc := 91) C dX3_moveAll_91 (v := 1) rfl ?_
        refine j_iadd (pc := 92) C dX3_moveAll_92 ?_
        refine j_iastore (pc := 93) C dX3_moveAll_93 (fun M9 => ?_)
        refine j_iconst (pc := 94) C dX3_moveAll_94 (v := 0) rfl ?_
        refine j_istore_n (pc := 95) C dX3_moveAll_95 (Nat.le_of_ble_eq_true rfl) (ls' := [(3, .int (0 : Int32)), (0, .ref x0), (1, .ref x1), (2, .int x2)]) rfl ?_
        refine j_loc [1, 2, 3, 0] rfl ?_
        exact t_X3_moveAll_l96 C  FU9 x0 x1 x2 (0 : Int32) M9
  · refine j_aload_n (pc := 12) C dX3_moveAll_12 rfl ?_
    refine j_getR (pc := 13) C dX3_moveAll_13 fl_X3_29 fr_X3_9 (fun v12 => ?_)
    refine j_iload_n (pc := 16) C dX3_moveAll_16 rfl ?_
    refine j_aload_n (pc := 17) C dX3_moveAll_17 rfl ?_
    refine j_iload_n (pc := 18) C dX3_moveAll_18 rfl ?_
    refine j_iload_n (pc := 19) C dX3_moveAll_19 rfl ?_
    refine j_callSi (pc := 20) C rfl dX3_moveAll_20 ls_X3_71 rfl (Nat.le_of_ble_eq_true rfl) (Nat.le_of_ble_eq_true rfl) (by decide) (Or.inl rfl) ⟨Nat.le_refl _, Nat.le_refl _⟩ (fun l hl o ho => sp_X3_canMove hl ho) (fun v14 M13 => ?_)
    refine j_bastore (pc := 23) C dX3_moveAll_23 (fun M15 => ?_)
    refine j_aload_n (pc := 24) C dX3_moveAll_24 rfl ?_
    refine j_iload_n (pc := 25) C dX3_moveAll_25 rfl ?_
    refine j_iload_n (pc := 26) C dX3_moveAll_26 rfl ?_
    refine j_iconst (pc := 27) C dX3_moveAll_27 (v := 1) rfl ?_
    refine j_callSi (pc := 28) C rfl dX3_moveAll_28 ls_X3_52 rfl (Nat.le_of_ble_eq_true rfl) (Nat.le_of_ble_eq_true rfl) (by decide) (Or.inl rfl) ⟨Nat.le_refl _, Nat.le_refl _⟩ (fun l hl o ho => sp_X3_place hl ho) (fun v17 M16 => ?_)
    refine j_aload_n (pc := 31) C dX3_moveAll_31 rfl ?_
    refine j_iload_n (pc := 32) C dX3_moveAll_32 rfl ?_
    refine j_iload_n (pc := 33) C dX3_moveAll_33 rfl ?_
    refine j_iconst (pc := 34) C dX3_moveAll_34 (v := 1) rfl ?_
    refine j_callSi (pc := 35) C rfl dX3_moveAll_35 ls_X3_56 rfl (Nat.le_of_ble_eq_true rfl) (Nat.le_of_ble_eq_true rfl) (by decide) (Or.inl rfl) ⟨Nat.le_refl _, Nat.le_refl _⟩ (fun l hl o ho => sp_X3_told hl ho) (fun v19 M18 => ?_)
    refine j_aload_n (pc := 38) C dX3_moveAll_38 rfl ?_
    refine j_getR (pc := 39) C dX3_moveAll_39 fl_X3_29 fr_X3_9 (fun v20 => ?_)
    refine j_iload_n (pc := 42) C dX3_moveAll_42 rfl ?_
    refine j_baload (pc := 43) C dX3_moveAll_43 (fun v21 => ?_)
    refine j_if_eq (pc := 44) C dX3_moveAll_44 (tgt := 51) (by decide) (fun hc22 => ?_) (fun hc22 => ?_)
    · refine j_iconst (pc := 51) C dX3_moveAll_51 (v := 0) rfl ?_
      exact t_X3_moveAll_b52 C h2 x0 x1 x2 x3 (0 : Int32) v19 v17 x2 x1 M18
    · refine j_iconst (pc := 47) C dX3_moveAll_47 (v := 1) rfl ?_
      refine j_goto (pc := 48) C dX3_moveAll_48 (tgt := 52) (by decide) ?_
      exact t_X3_moveAll_b52 C h2 x0 x1 x2 x3 (1 : Int32) v19 v17 x2 x1 M18
theorem t_X3_moveAll_l2 {z : Sh9} {N : Nv9} {X : Cx9} {out : Out9 × Mem9} (C : OK9 z N X out 4 (co9 out.1) cX3_moveAll RX3 4 0 [])  : ∀ (n : Nat) (x0 : Nat) (x1 : Nat) (x2 : Int32) (x3 : Int32) (M : Mem9), J9 z N X out 4 2 [(0, .ref x0), (1, .ref x1), (2, .int x2), (3, .int x3)] [] M (0, 0) (fx9 (fun _ _ _ _ _ => none) (f_X3_moveAll_b2 z ) n x0 x1 x2 x3 M) := by
  intro n
  induction n with
  | zero => intro x0 x1 x2 x3 M; exact j_none
  | succ n ih => intro x0 x1 x2 x3 M; exact t_X3_moveAll_b2 C  ih x0 x1 x2 x3 M
def f_X3_moveAll (z : Sh9) (a0 : Nat) (a1 : Nat) (a2 : Int32) (M : Mem9) : Re9 :=
  (fx9 (fun _ _ _ _ _ => none) (f_X3_moveAll_b2 z ) FU9 a0 a1 a2 (0 : Int32) M)
set_option maxRecDepth 20000 in
set_option maxHeartbeats 4000000 in
theorem t_X3_moveAll {z : Sh9} {N : Nv9} {X : Cx9} {out : Out9 × Mem9} (C : OK9 z N X out 4 (co9 out.1) cX3_moveAll RX3 4 0 []) (a0 : Nat) (a1 : Nat) (a2 : Int32) (M : Mem9) : J9 z N X out 4 0 [(0, .ref a0), (1, .ref a1), (2, .int a2)] [] M (0, 0) (f_X3_moveAll z a0 a1 a2 M) := by
  refine j_iconst (pc := 0) C dX3_moveAll_0 (v := 0) rfl ?_
  refine j_istore_n (pc := 1) C dX3_moveAll_1 (Nat.le_of_ble_eq_true rfl) (ls' := [(3, .int (0 : Int32)), (0, .ref a0), (1, .ref a1), (2, .int a2)]) rfl ?_
  refine j_loc [1, 2, 3, 0] rfl ?_
  exact t_X3_moveAll_l2 C  FU9 a0 a1 a2 (0 : Int32) M
theorem sp_X3_moveAll {l : Launch} {z : Sh9} {N : Nv9} {a0 : Nat} {a1 : Nat} {a2 : Int32} {M : Mem9} {o : Out9 × Mem9} (hl : l.stackTraces = false) (h : f_X3_moveAll z a0 a1 a2 M = some o) : Sp9 l z N yX3_moveAll (Cond.code yX3_moveAll cX3_moveAll 4 none) 4 [.ref a0, .ref a1, .int a2] M (co9 o.1) o :=
  sp9_of (rk := 0) (own := RX3) (by decide +kernel) rfl (Or.inl ⟨rfl, rfl⟩) hl (Nat.le_of_ble_eq_true rfl) (fun X C => t_X3_moveAll C a0 a1 a2 M) h
def f_X3_reason_b109 (z : Sh9) (r4 : Nat → Int32 → Int32 → Int32 → Mem9 → Re9) (x0 : Nat) (x1 : Int32) (x3 : Int32) (s0 : Int32) (M : Mem9) : Re9 :=
  (r4 x0 x1 s0 (x3 + (1 : Int32)) M)
set_option maxRecDepth 20000 in
set_option maxHeartbeats 4000000 in
theorem t_X3_reason_b109 {z : Sh9} {N : Nv9} {X : Cx9} {out : Out9 × Mem9} (C : OK9 z N X out 6 (co9 out.1) cX3_reason RX3 4 1 []) {r4 : Nat → Int32 → Int32 → Int32 → Mem9 → Re9} (h4 : ∀ (x0 : Nat) (x1 : Int32) (x2 : Int32) (x3 : Int32) (M : Mem9), J9 z N X out 6 4 [(0, .ref x0), (1, .int x1), (2, .int x2), (3, .int x3)] [] M (0, 0) (r4 x0 x1 x2 x3 M)) (x0 : Nat) (x1 : Int32) (x3 : Int32) (s0 : Int32) (M : Mem9) : J9 z N X out 6 109 [(0, .ref x0), (1, .int x1), (3, .int x3)] [.int s0] M (0, 0) (f_X3_reason_b109 z r4 x0 x1 x3 s0 M) := by
  refine j_istore_n (pc := 109) C dX3_reason_109 (Nat.le_of_ble_eq_true rfl) (ls' := [(2, .int s0), (0, .ref x0), (1, .int x1), (3, .int x3)]) rfl ?_
  refine j_iinc (pc := 110) C dX3_reason_110 rfl (v := (x3 + (1 : Int32))) rfl (Nat.le_of_ble_eq_true rfl) (ls' := [(3, .int (x3 + (1 : Int32))), (2, .int s0), (0, .ref x0), (1, .int x1)]) rfl ?_
  refine j_goto (pc := 113) C dX3_reason_113 (tgt := 4) (by decide) ?_
  refine j_loc [2, 3, 1, 0] rfl ?_
  exact h4 x0 x1 s0 (x3 + (1 : Int32)) M
def f_X3_reason_b108 (z : Sh9) (r4 : Nat → Int32 → Int32 → Int32 → Mem9 → Re9) (x0 : Nat) (x1 : Int32) (x2 : Int32) (x3 : Int32) (M : Mem9) : Re9 :=
  (f_X3_reason_b109 z r4 x0 x1 x3 x2 M)
set_option maxRecDepth 20000 in
set_option maxHeartbeats 4000000 in
theorem t_X3_reason_b108 {z : Sh9} {N : Nv9} {X : Cx9} {out : Out9 × Mem9} (C : OK9 z N X out 6 (co9 out.1) cX3_reason RX3 4 1 []) {r4 : Nat → Int32 → Int32 → Int32 → Mem9 → Re9} (h4 : ∀ (x0 : Nat) (x1 : Int32) (x2 : Int32) (x3 : Int32) (M : Mem9), J9 z N X out 6 4 [(0, .ref x0), (1, .int x1), (2, .int x2), (3, .int x3)] [] M (0, 0) (r4 x0 x1 x2 x3 M)) (x0 : Nat) (x1 : Int32) (x2 : Int32) (x3 : Int32) (M : Mem9) : J9 z N X out 6 108 [(0, .ref x0), (1, .int x1), (2, .int x2), (3, .int x3)] [] M (0, 0) (f_X3_reason_b108 z r4 x0 x1 x2 x3 M) := by
  refine j_iload_n (pc := 108) C dX3_reason_108 rfl ?_
  refine j_loc [0, 1, 3] rfl ?_
  exact t_X3_reason_b109 C h4 x0 x1 x3 x2 M
def f_X3_reason_b81 (z : Sh9) (r4 : Nat → Int32 → Int32 → Int32 → Mem9 → Re9) (x0 : Nat) (x1 : Int32) (x2 : Int32) (x3 : Int32) (x4 : Int32) (s0 : Int32) (M : Mem9) : Re9 :=
  (if s0 = 0 then (f_X3_reason_b108 z r4 x0 x1 x2 x3 M) else (if x4 < (20 : Int32) then (f_X3_reason_b108 z r4 x0 x1 x2 x3 M) else (bi9 (f_X3_of z x0 x1 (4 : Int32) M) fun v24 M23 => (if v24 = 0 then (f_X3_reason_b109 z r4 x0 x1 x3 (2 : Int32) M23) else (f_X3_reason_b108 z r4 x0 x1 x2 x3 M23)))))
set_option maxRecDepth 20000 in
set_option maxHeartbeats 4000000 in
theorem t_X3_reason_b81 {z : Sh9} {N : Nv9} {X : Cx9} {out : Out9 × Mem9} (C : OK9 z N X out 6 (co9 out.1) cX3_reason RX3 4 1 []) {r4 : Nat → Int32 → Int32 → Int32 → Mem9 → Re9} (h4 : ∀ (x0 : Nat) (x1 : Int32) (x2 : Int32) (x3 : Int32) (M : Mem9), J9 z N X out 6 4 [(0, .ref x0), (1, .int x1), (2, .int x2), (3, .int x3)] [] M (0, 0) (r4 x0 x1 x2 x3 M)) (x0 : Nat) (x1 : Int32) (x2 : Int32) (x3 : Int32) (x4 : Int32) (s0 : Int32) (M : Mem9) : J9 z N X out 6 81 [(0, .ref x0), (1, .int x1), (2, .int x2), (3, .int x3), (4, .int x4)] [.int s0] M (0, 0) (f_X3_reason_b81 z r4 x0 x1 x2 x3 x4 s0 M) := by
  refine j_istore (pc := 81) C dX3_reason_81 (Nat.le_of_ble_eq_true rfl) (ls' := [(5, .int s0), (0, .ref x0), (1, .int x1), (2, .int x2), (3, .int x3), (4, .int x4)]) rfl ?_
  refine j_iload (pc := 83) C dX3_reason_83 rfl ?_
  refine j_if_eq (pc := 85) C dX3_reason_85 (tgt := 108) (by decide) (fun hc27 => ?_) (fun hc27 => ?_)
  · refine j_loc [1, 2, 3, 4] rfl ?_
    exact t_X3_reason_b108 C h4 x0 x1 x2 x3 M
  · refine j_iload (pc := 88) C dX3_reason_88 rfl ?_
    refine j_bipush (pc := 90) C dX3_reason_90 (v := 20) rfl ?_
    refine j_icmp_lt (pc := 92) C dX3_reason_92 (tgt := 108) (by decide) (fun hc26 => ?_) (fun hc26 => ?_)
    · refine j_loc [1, 2, 3, 4] rfl ?_
      exact t_X3_reason_b108 C h4 x0 x1 x2 x3 M
    · refine j_aload_n (pc := 95) C dX3_reason_95 rfl ?_
      refine j_iload_n (pc := 96) C dX3_reason_96 rfl ?_
      refine j_iconst (pc := 97) C dX3_reason_97 (v := 4) rfl ?_
      refine j_callSi (pc := 98) C rfl dX3_reason_98 ls_X3_48 rfl (Nat.le_of_ble_eq_true rfl) (Nat.le_of_ble_eq_true rfl) (by decide) (Or.inl rfl) ⟨Nat.le_refl _, Nat.le_refl _⟩ (fun l hl o ho => sp_X3_of hl ho) (fun v24 M23 => ?_)
      refine j_if_ne (pc := 101) C dX3_reason_101 (tgt := 108) (by decide) (fun hc25 => ?_) (fun hc25 => ?_)
      · refine j_loc [1, 2, 3, 4] rfl ?_
        exact t_X3_reason_b108 C h4 x0 x1 x2 x3 M23
      · refine j_iconst (pc := 104) C dX3_reason_104 (v := 2) rfl ?_
        refine j_goto (pc := 105) C dX3_reason_105 (tgt := 109) (by decide) ?_
        refine j_loc [1, 2, 4] rfl ?_
        exact t_X3_reason_b109 C h4 x0 x1 x3 (2 : Int32) M23
def f_X3_reason_b76 (z : Sh9) (r4 : Nat → Int32 → Int32 → Int32 → Mem9 → Re9) (x0 : Nat) (x1 : Int32) (x2 : Int32) (x3 : Int32) (x4 : Int32) (M : Mem9) : Re9 :=
  (f_X3_reason_b81 z r4 x0 x1 x2 x3 x4 (1 : Int32) M)
set_option maxRecDepth 20000 in
set_option maxHeartbeats 4000000 in
theorem t_X3_reason_b76 {z : Sh9} {N : Nv9} {X : Cx9} {out : Out9 × Mem9} (C : OK9 z N X out 6 (co9 out.1) cX3_reason RX3 4 1 []) {r4 : Nat → Int32 → Int32 → Int32 → Mem9 → Re9} (h4 : ∀ (x0 : Nat) (x1 : Int32) (x2 : Int32) (x3 : Int32) (M : Mem9), J9 z N X out 6 4 [(0, .ref x0), (1, .int x1), (2, .int x2), (3, .int x3)] [] M (0, 0) (r4 x0 x1 x2 x3 M)) (x0 : Nat) (x1 : Int32) (x2 : Int32) (x3 : Int32) (x4 : Int32) (M : Mem9) : J9 z N X out 6 76 [(0, .ref x0), (1, .int x1), (2, .int x2), (3, .int x3), (4, .int x4)] [] M (0, 0) (f_X3_reason_b76 z r4 x0 x1 x2 x3 x4 M) := by
  refine j_iconst (pc := 76) C dX3_reason_76 (v := 1) rfl ?_
  refine j_goto (pc := 77) C dX3_reason_77 (tgt := 81) (by decide) ?_
  exact t_X3_reason_b81 C h4 x0 x1 x2 x3 x4 (1 : Int32) M
def f_X3_reason_b43 (z : Sh9) (r4 : Nat → Int32 → Int32 → Int32 → Mem9 → Re9) (x0 : Nat) (x1 : Int32) (x2 : Int32) (x3 : Int32) (x4 : Int32) (M : Mem9) : Re9 :=
  (bi9 (f_X3_covers z x0 x1 x3 (19 : Int32) M) fun v15 M14 => (if v15 = 0 then (bi9 (f_X3_covers z x0 x1 x3 (20 : Int32) M14) fun v17 M16 => (if v17 = 0 then (bi9 (f_X3_covers z x0 x1 x3 (21 : Int32) M16) fun v19 M18 => (if v19 = 0 then (f_X3_reason_b81 z r4 x0 x1 x2 x3 x4 (0 : Int32) M18) else (f_X3_reason_b76 z r4 x0 x1 x2 x3 x4 M18))) else (f_X3_reason_b76 z r4 x0 x1 x2 x3 x4 M16))) else (f_X3_reason_b76 z r4 x0 x1 x2 x3 x4 M14)))
set_option maxRecDepth 20000 in
set_option maxHeartbeats 4000000 in
theorem t_X3_reason_b43 {z : Sh9} {N : Nv9} {X : Cx9} {out : Out9 × Mem9} (C : OK9 z N X out 6 (co9 out.1) cX3_reason RX3 4 1 []) {r4 : Nat → Int32 → Int32 → Int32 → Mem9 → Re9} (h4 : ∀ (x0 : Nat) (x1 : Int32) (x2 : Int32) (x3 : Int32) (M : Mem9), J9 z N X out 6 4 [(0, .ref x0), (1, .int x1), (2, .int x2), (3, .int x3)] [] M (0, 0) (r4 x0 x1 x2 x3 M)) (x0 : Nat) (x1 : Int32) (x2 : Int32) (x3 : Int32) (x4 : Int32) (M : Mem9) : J9 z N X out 6 43 [(0, .ref x0), (1, .int x1), (2, .int x2), (3, .int x3), (4, .int x4)] [] M (0, 0) (f_X3_reason_b43 z r4 x0 x1 x2 x3 x4 M) := by
  refine j_aload_n (pc := 43) C dX3_reason_43 rfl ?_
  refine j_iload_n (pc := 44) C dX3_reason_44 rfl ?_
  refine j_iload_n (pc := 45) C dX3_reason_45 rfl ?_
  refine j_bipush (pc := 46) C dX3_reason_46 (v := 19) rfl ?_
  refine j_callSi (pc := 48) C rfl dX3_reason_48 ls_X3_63 rfl (Nat.le_of_ble_eq_true rfl) (Nat.le_of_ble_eq_true rfl) (by decide) (Or.inl rfl) ⟨Nat.le_refl _, Nat.le_refl _⟩ (fun l hl o ho => sp_X3_covers hl ho) (fun v15 M14 => ?_)
  refine j_if_ne (pc := 51) C dX3_reason_51 (tgt := 76) (by decide) (fun hc22 => ?_) (fun hc22 => ?_)
  · exact t_X3_reason_b76 C h4 x0 x1 x2 x3 x4 M14
  · refine j_aload_n (pc := 54) C dX3_reason_54 rfl ?_
    refine j_iload_n (pc := 55) C dX3_reason_55 rfl ?_
    refine j_iload_n (pc := 56) C dX3_reason_56 rfl ?_
    refine j_bipush (pc := 57) C dX3_reason_57 (v := 20) rfl ?_
    refine j_callSi (pc := 59) C rfl dX3_reason_59 ls_X3_63 rfl (Nat.le_of_ble_eq_true rfl) (Nat.le_of_ble_eq_true rfl) (by decide) (Or.inl rfl) ⟨Nat.le_refl _, Nat.le_refl _⟩ (fun l hl o ho => sp_X3_covers hl ho) (fun v17 M16 => ?_)
    refine j_if_ne (pc := 62) C dX3_reason_62 (tgt := 76) (by decide) (fun hc21 => ?_) (fun hc21 => ?_)
    · exact t_X3_reason_b76 C h4 x0 x1 x2 x3 x4 M16
    · refine j_aload_n (pc := 65) C dX3_reason_65 rfl ?_
      refine j_iload_n (pc := 66) C dX3_reason_66 rfl ?_
      refine j_iload_n (pc := 67) C dX3_reason_67 rfl ?_
      refine j_bipush (pc := 68) C dX3_reason_68 (v := 21) rfl ?_
      refine j_callSi (pc := 70) C rfl dX3_reason_70 ls_X3_63 rfl (Nat.le_of_ble_eq_true rfl) (Nat.le_of_ble_eq_true rfl) (by decide) (Or.inl rfl) ⟨Nat.le_refl _, Nat.le_refl _⟩ (fun l hl o ho => sp_X3_covers hl ho) (fun v19 M18 => ?_)
      refine j_if_eq (pc := 73) C dX3_reason_73 (tgt := 80) (by decide) (fun hc20 => ?_) (fun hc20 => ?_)
      · refine j_iconst (pc := 80) C dX3_reason_80 (v := 0) rfl ?_
        exact t_X3_reason_b81 C h4 x0 x1 x2 x3 x4 (0 : Int32) M18
      · exact t_X3_reason_b76 C h4 x0 x1 x2 x3 x4 M18
def f_X3_reason_b4 (z : Sh9) (r4 : Nat → Int32 → Int32 → Int32 → Mem9 → Re9) (x0 : Nat) (x1 : Int32) (x2 : Int32) (x3 : Int32) (M : Mem9) : Re9 :=
  (bi9 (f_X3_of z x0 x1 (0 : Int32) M) fun v2 M1 => (if v2 ≤ x3 then (if x2 ≤ 0 then (bi9 (f_X3_of z x0 x1 (2 : Int32) M1) fun v4 M3 => (if v4 ≤ 0 then (ri9 (0 : Int32) M3) else (ri9 (3 : Int32) M3))) else (ri9 x2 M1)) else (bi9 (f_X3_told z x0 x1 x3 (1 : Int32) M1) fun v8 M7 => (bi9 (f_X3_told z x0 x1 x3 (4 : Int32) M7) fun v10 M9 => (if v10 = (1 : Int32) then (if (20 : Int32) ≤ v8 then (f_X3_reason_b43 z r4 x0 x1 x2 x3 v8 M9) else (ri9 (1 : Int32) M9)) else (f_X3_reason_b43 z r4 x0 x1 x2 x3 v8 M9))))))
set_option maxRecDepth 20000 in
set_option maxHeartbeats 4000000 in
theorem t_X3_reason_b4 {z : Sh9} {N : Nv9} {X : Cx9} {out : Out9 × Mem9} (C : OK9 z N X out 6 (co9 out.1) cX3_reason RX3 4 1 []) {r4 : Nat → Int32 → Int32 → Int32 → Mem9 → Re9} (h4 : ∀ (x0 : Nat) (x1 : Int32) (x2 : Int32) (x3 : Int32) (M : Mem9), J9 z N X out 6 4 [(0, .ref x0), (1, .int x1), (2, .int x2), (3, .int x3)] [] M (0, 0) (r4 x0 x1 x2 x3 M)) (x0 : Nat) (x1 : Int32) (x2 : Int32) (x3 : Int32) (M : Mem9) : J9 z N X out 6 4 [(0, .ref x0), (1, .int x1), (2, .int x2), (3, .int x3)] [] M (0, 0) (f_X3_reason_b4 z r4 x0 x1 x2 x3 M) := by
  refine j_iload_n (pc := 4) C dX3_reason_4 rfl ?_
  refine j_aload_n (pc := 5) C dX3_reason_5 rfl ?_
  refine j_iload_n (pc := 6) C dX3_reason_6 rfl ?_
  refine j_iconst (pc := 7) C dX3_reason_7 (v := 0) rfl ?_
  refine j_callSi (pc := 8) C rfl dX3_reason_8 ls_X3_48 rfl (Nat.le_of_ble_eq_true rfl) (Nat.le_of_ble_eq_true rfl) (by decide) (Or.inl rfl) ⟨Nat.le_refl _, Nat.le_refl _⟩ (fun l hl o ho => sp_X3_of hl ho) (fun v2 M1 => ?_)
  refine j_icmp_ge (pc := 11) C dX3_reason_11 (tgt := 116) (by decide) (fun hc13 => ?_) (fun hc13 => ?_)
  · refine j_iload_n (pc := 116) C dX3_reason_116 rfl ?_
    refine j_if_le (pc := 117) C dX3_reason_117 (tgt := 124) (by decide) (fun hc6 => ?_) (fun hc6 => ?_)
    · refine j_aload_n (pc := 124) C dX3_reason_124 rfl ?_
      refine j_iload_n (pc := 125) C dX3_reason_125 rfl ?_
      refine j_iconst (pc := 126) C dX3_reason_126 (v := 2) rfl ?_
      refine j_callSi (pc := 127) C rfl dX3_reason_127 ls_X3_48 rfl (Nat.le_of_ble_eq_true rfl) (Nat.le_of_ble_eq_true rfl) (by decide) (Or.inl rfl) ⟨Nat.le_refl _, Nat.le_refl _⟩ (fun l hl o ho => sp_X3_of hl ho) (fun v4 M3 => ?_)
      refine j_if_le (pc := 130) C dX3_reason_130 (tgt := 137) (by decide) (fun hc5 => ?_) (fun hc5 => ?_)
      · refine j_iconst (pc := 137) C dX3_reason_137 (v := 0) rfl ?_
        exact j_ireturn (pc := 138) C rfl dX3_reason_138 ⟨Nat.zero_le _, Nat.zero_le _⟩
      · refine j_iconst (pc := 133) C dX3_reason_133 (v := 3) rfl ?_
        refine j_goto (pc := 134) C dX3_reason_134 (tgt := 138) (by decide) ?_
        exact j_ireturn (pc := 138) C rfl dX3_reason_138 ⟨Nat.zero_le _, Nat.zero_le _⟩
    · refine j_iload_n (pc := 120) C dX3_reason_120 rfl ?_
      refine j_goto (pc := 121) C dX3_reason_121 (tgt := 138) (by decide) ?_
      exact j_ireturn (pc := 138) C rfl dX3_reason_138 ⟨Nat.zero_le _, Nat.zero_le _⟩
  · refine j_aload_n (pc := 14) C dX3_reason_14 rfl ?_
    refine j_iload_n (pc := 15) C dX3_reason_15 rfl ?_
    refine j_iload_n (pc := 16) C dX3_reason_16 rfl ?_
    refine j_iconst (pc := 17) C dX3_reason_17 (v := 1) rfl ?_
    refine j_callSi (pc := 18) C rfl dX3_reason_18 ls_X3_56 rfl (Nat.le_of_ble_eq_true rfl) (Nat.le_of_ble_eq_true rfl) (by decide) (Or.inl rfl) ⟨Nat.le_refl _, Nat.le_refl _⟩ (fun l hl o ho => sp_X3_told hl ho) (fun v8 M7 => ?_)
    refine j_istore (pc := 21) C dX3_reason_21 (Nat.le_of_ble_eq_true rfl) (ls' := [(4, .int v8), (0, .ref x0), (1, .int x1), (2, .int x2), (3, .int x3)]) rfl ?_
    refine j_aload_n (pc := 23) C dX3_reason_23 rfl ?_
    refine j_iload_n (pc := 24) C dX3_reason_24 rfl ?_
    refine j_iload_n (pc := 25) C dX3_reason_25 rfl ?_
    refine j_iconst (pc := 26) C dX3_reason_26 (v := 4) rfl ?_
    refine j_callSi (pc := 27) C rfl dX3_reason_27 ls_X3_56 rfl (Nat.le_of_ble_eq_true rfl) (Nat.le_of_ble_eq_true rfl) (by decide) (Or.inl rfl) ⟨Nat.le_refl _, Nat.le_refl _⟩ (fun l hl o ho => sp_X3_told hl ho) (fun v10 M9 => ?_)
    refine j_iconst (pc := 30) C dX3_reason_30 (v := 1) rfl ?_
    refine j_icmp_ne (pc := 31) C dX3_reason_31 (tgt := 43) (by decide) (fun hc12 => ?_) (fun hc12 => ?_)
    · refine j_loc [1, 2, 3, 4, 0] rfl ?_
      exact t_X3_reason_b43 C h4 x0 x1 x2 x3 v8 M9
    · refine j_iload (pc := 34) C dX3_reason_34 rfl ?_
      refine j_bipush (pc := 36) C dX3_reason_36 (v := 20) rfl ?_
      refine j_icmp_ge (pc := 38) C dX3_reason_38 (tgt := 43) (by decide) (fun hc11 => ?_) (fun hc11 => ?_)
      · refine j_loc [1, 2, 3, 4, 0] rfl ?_
        exact t_X3_reason_b43 C h4 x0 x1 x2 x3 v8 M9
      · refine j_iconst (pc := 41) C dX3_reason_41 (v := 1) rfl ?_
        exact j_ireturn (pc := 42) C rfl dX3_reason_42 ⟨Nat.zero_le _, Nat.zero_le _⟩
theorem t_X3_reason_l4 {z : Sh9} {N : Nv9} {X : Cx9} {out : Out9 × Mem9} (C : OK9 z N X out 6 (co9 out.1) cX3_reason RX3 4 1 [])  : ∀ (n : Nat) (x0 : Nat) (x1 : Int32) (x2 : Int32) (x3 : Int32) (M : Mem9), J9 z N X out 6 4 [(0, .ref x0), (1, .int x1), (2, .int x2), (3, .int x3)] [] M (0, 0) (fx9 (fun _ _ _ _ _ => none) (f_X3_reason_b4 z ) n x0 x1 x2 x3 M) := by
  intro n
  induction n with
  | zero => intro x0 x1 x2 x3 M; exact j_none
  | succ n ih => intro x0 x1 x2 x3 M; exact t_X3_reason_b4 C  ih x0 x1 x2 x3 M
def f_X3_reason (z : Sh9) (a0 : Nat) (a1 : Int32) (M : Mem9) : Re9 :=
  (fx9 (fun _ _ _ _ _ => none) (f_X3_reason_b4 z ) FU9 a0 a1 (0 : Int32) (0 : Int32) M)
set_option maxRecDepth 20000 in
set_option maxHeartbeats 4000000 in
theorem t_X3_reason {z : Sh9} {N : Nv9} {X : Cx9} {out : Out9 × Mem9} (C : OK9 z N X out 6 (co9 out.1) cX3_reason RX3 4 1 []) (a0 : Nat) (a1 : Int32) (M : Mem9) : J9 z N X out 6 0 [(0, .ref a0), (1, .int a1)] [] M (0, 0) (f_X3_reason z a0 a1 M) := by
  refine j_iconst (pc := 0) C dX3_reason_0 (v := 0) rfl ?_
  refine j_istore_n (pc := 1) C dX3_reason_1 (Nat.le_of_ble_eq_true rfl) (ls' := [(2, .int (0 : Int32)), (0, .ref a0), (1, .int a1)]) rfl ?_
  refine j_iconst (pc := 2) C dX3_reason_2 (v := 0) rfl ?_
  refine j_istore_n (pc := 3) C dX3_reason_3 (Nat.le_of_ble_eq_true rfl) (ls' := [(3, .int (0 : Int32)), (2, .int (0 : Int32)), (0, .ref a0), (1, .int a1)]) rfl ?_
  refine j_loc [2, 3, 1, 0] rfl ?_
  exact t_X3_reason_l4 C  FU9 a0 a1 (0 : Int32) (0 : Int32) M
theorem sp_X3_reason {l : Launch} {z : Sh9} {N : Nv9} {a0 : Nat} {a1 : Int32} {M : Mem9} {o : Out9 × Mem9} (hl : l.stackTraces = false) (h : f_X3_reason z a0 a1 M = some o) : Sp9 l z N yX3_reason (Cond.code yX3_reason cX3_reason 6 (some .int)) 4 [.ref a0, .int a1] M (co9 o.1) o :=
  sp9_of (rk := 1) (own := RX3) (by decide +kernel) rfl (Or.inr (Or.inl ⟨rfl, rfl⟩)) hl (Nat.le_of_ble_eq_true rfl) (fun X C => t_X3_reason C a0 a1 M) h
def f_X3_turnArm_b84 (z : Sh9)  (s0 : Int32) (s1 : Int32) (s2 : Int32) (s3 : Nat) (M : Mem9) : Re9 :=
  (bv9 (f_X3_lay z s3 s2 s1 s0 M) fun M17 => (rv9 M17))
set_option maxRecDepth 20000 in
set_option maxHeartbeats 4000000 in
theorem t_X3_turnArm_b84 {z : Sh9} {N : Nv9} {X : Cx9} {out : Out9 × Mem9} (C : OK9 z N X out 4 (co9 out.1) cX3_turnArm RX3 5 0 [])  (s0 : Int32) (s1 : Int32) (s2 : Int32) (s3 : Nat) (M : Mem9) : J9 z N X out 4 84 [] [.int s0, .int s1, .int s2, .ref s3] M (0, 0) (f_X3_turnArm_b84 z  s0 s1 s2 s3 M) := by
  refine j_callSv (pc := 84) C rfl dX3_turnArm_84 ls_X3_67 rfl (Nat.le_of_ble_eq_true rfl) (Nat.le_of_ble_eq_true rfl) (by decide) (Or.inl rfl) ⟨Nat.le_refl _, Nat.le_refl _⟩ (fun l hl o ho => sp_X3_lay hl ho) (fun M17 => ?_)
  exact j_return (pc := 87) C rfl dX3_turnArm_87 ⟨Nat.zero_le _, Nat.zero_le _⟩
def f_X3_turnArm_b83 (z : Sh9)  (x3 : Int32) (s0 : Int32) (s1 : Int32) (s2 : Nat) (M : Mem9) : Re9 :=
  (f_X3_turnArm_b84 z  x3 s0 s1 s2 M)
set_option maxRecDepth 20000 in
set_option maxHeartbeats 4000000 in
theorem t_X3_turnArm_b83 {z : Sh9} {N : Nv9} {X : Cx9} {out : Out9 × Mem9} (C : OK9 z N X out 4 (co9 out.1) cX3_turnArm RX3 5 0 [])  (x3 : Int32) (s0 : Int32) (s1 : Int32) (s2 : Nat) (M : Mem9) : J9 z N X out 4 83 [(3, .int x3)] [.int s0, .int s1, .ref s2] M (0, 0) (f_X3_turnArm_b83 z  x3 s0 s1 s2 M) := by
  refine j_iload_n (pc := 83) C dX3_turnArm_83 rfl ?_
  refine j_loc [] rfl ?_
  exact t_X3_turnArm_b84 C  x3 s0 s1 s2 M
def f_X3_turnArm_b50 (z : Sh9)  (x0 : Nat) (x1 : Int32) (s0 : Int32) (M : Mem9) : Re9 :=
  (bv9 (f_X3_lay z x0 x1 (1 : Int32) s0 M) fun M12 => (bi9 (f_X3_of z x0 x1 (2 : Int32) M12) fun v14 M13 => (if s0 = (4 : Int32) then (if v14 ≤ 0 then (f_X3_turnArm_b83 z  v14 (2 : Int32) x1 x0 M13) else (f_X3_turnArm_b84 z  (v14 - (1 : Int32)) (2 : Int32) x1 x0 M13)) else (f_X3_turnArm_b83 z  v14 (2 : Int32) x1 x0 M13))))
set_option maxRecDepth 20000 in
set_option maxHeartbeats 4000000 in
theorem t_X3_turnArm_b50 {z : Sh9} {N : Nv9} {X : Cx9} {out : Out9 × Mem9} (C : OK9 z N X out 4 (co9 out.1) cX3_turnArm RX3 5 0 [])  (x0 : Nat) (x1 : Int32) (s0 : Int32) (M : Mem9) : J9 z N X out 4 50 [(0, .ref x0), (1, .int x1)] [.int s0] M (0, 0) (f_X3_turnArm_b50 z  x0 x1 s0 M) := by
  refine j_istore_n (pc := 50) C dX3_turnArm_50 (Nat.le_of_ble_eq_true rfl) (ls' := [(2, .int s0), (0, .ref x0), (1, .int x1)]) rfl ?_
  refine j_aload_n (pc := 51) C dX3_turnArm_51 rfl ?_
  refine j_iload_n (pc := 52) C dX3_turnArm_52 rfl ?_
  refine j_iconst (pc := 53) C dX3_turnArm_53 (v := 1) rfl ?_
  refine j_iload_n (pc := 54) C dX3_turnArm_54 rfl ?_
  refine j_callSv (pc := 55) C rfl dX3_turnArm_55 ls_X3_67 rfl (Nat.le_of_ble_eq_true rfl) (Nat.le_of_ble_eq_true rfl) (by decide) (Or.inl rfl) ⟨Nat.le_refl _, Nat.le_refl _⟩ (fun l hl o ho => sp_X3_lay hl ho) (fun M12 => ?_)
  refine j_aload_n (pc := 58) C dX3_turnArm_58 rfl ?_
  refine j_iload_n (pc := 59) C dX3_turnArm_59 rfl ?_
  refine j_iconst (pc := 60) C dX3_turnArm_60 (v := 2) rfl ?_
  refine j_callSi (pc := 61) C rfl dX3_turnArm_61 ls_X3_48 rfl (Nat.le_of_ble_eq_true rfl) (Nat.le_of_ble_eq_true rfl) (by decide) (Or.inl rfl) ⟨Nat.le_refl _, Nat.le_refl _⟩ (fun l hl o ho => sp_X3_of hl ho) (fun v14 M13 => ?_)
  refine j_istore_n (pc := 64) C dX3_turnArm_64 (Nat.le_of_ble_eq_true rfl) (ls' := [(3, .int v14), (2, .int s0), (0, .ref x0), (1, .int x1)]) rfl ?_
  refine j_aload_n (pc := 65) C dX3_turnArm_65 rfl ?_
  refine j_iload_n (pc := 66) C dX3_turnArm_66 rfl ?_
  refine j_iconst (pc := 67) C dX3_turnArm_67 (v := 2) rfl ?_
  refine j_iload_n (pc := 68) C dX3_turnArm_68 rfl ?_
  refine j_iconst (pc := 69) C dX3_turnArm_69 (v := 4) rfl ?_
  refine j_icmp_ne (pc := 70) C dX3_turnArm_70 (tgt := 83) (by decide) (fun hc16 => ?_) (fun hc16 => ?_)
  · refine j_loc [0] rfl ?_
    exact t_X3_turnArm_b83 C  v14 (2 : Int32) x1 x0 M13
  · refine j_iload_n (pc := 73) C dX3_turnArm_73 rfl ?_
    refine j_if_le (pc := 74) C dX3_turnArm_74 (tgt := 83) (by decide) (fun hc15 => ?_) (fun hc15 => ?_)
    · refine j_loc [0] rfl ?_
      exact t_X3_turnArm_b83 C  v14 (2 : Int32) x1 x0 M13
    · refine j_iload_n (pc := 77) C dX3_turnArm_77 rfl ?_
      refine j_iconst (pc := 78) C dX3_turnArm_78 (v := 1) rfl ?_
      refine j_isub (pc := 79) C dX3_turnArm_79 ?_
      refine j_goto (pc := 80) C dX3_turnArm_80 (tgt := 84) (by decide) ?_
      refine j_loc [] rfl ?_
      exact t_X3_turnArm_b84 C  (v14 - (1 : Int32)) (2 : Int32) x1 x0 M13
def f_X3_turnArm_b30 (z : Sh9)  (x0 : Nat) (x1 : Int32) (s0 : Int32) (s1 : Int32) (M : Mem9) : Re9 :=
  (nm9 (s1 + s0) fun (y9 : Int32) => (if 0 ≤ y9 then (if y9 ≤ (4 : Int32) then (f_X3_turnArm_b50 z  x0 x1 y9 M) else (f_X3_turnArm_b50 z  x0 x1 (4 : Int32) M)) else (f_X3_turnArm_b50 z  x0 x1 (0 : Int32) M)))
set_option maxRecDepth 20000 in
set_option maxHeartbeats 4000000 in
theorem t_X3_turnArm_b30 {z : Sh9} {N : Nv9} {X : Cx9} {out : Out9 × Mem9} (C : OK9 z N X out 4 (co9 out.1) cX3_turnArm RX3 5 0 [])  (x0 : Nat) (x1 : Int32) (s0 : Int32) (s1 : Int32) (M : Mem9) : J9 z N X out 4 30 [(0, .ref x0), (1, .int x1)] [.int s0, .int s1] M (0, 0) (f_X3_turnArm_b30 z  x0 x1 s0 s1 M) := by
  refine j_iadd (pc := 30) C dX3_turnArm_30 ?_
  refine j_nm (st' := fun x9 : Int32 => .int x9 :: []) rfl (fun y9 => ?_)
  refine j_istore_n (pc := 31) C dX3_turnArm_31 (Nat.le_of_ble_eq_true rfl) (ls' := [(2, .int y9), (0, .ref x0), (1, .int x1)]) rfl ?_
  refine j_iload_n (pc := 32) C dX3_turnArm_32 rfl ?_
  refine j_if_ge (pc := 33) C dX3_turnArm_33 (tgt := 40) (by decide) (fun hc11 => ?_) (fun hc11 => ?_)
  · refine j_iload_n (pc := 40) C dX3_turnArm_40 rfl ?_
    refine j_iconst (pc := 41) C dX3_turnArm_41 (v := 4) rfl ?_
    refine j_icmp_le (pc := 42) C dX3_turnArm_42 (tgt := 49) (by decide) (fun hc10 => ?_) (fun hc10 => ?_)
    · refine j_iload_n (pc := 49) C dX3_turnArm_49 rfl ?_
      refine j_loc [1, 2] rfl ?_
      exact t_X3_turnArm_b50 C  x0 x1 y9 M
    · refine j_iconst (pc := 45) C dX3_turnArm_45 (v := 4) rfl ?_
      refine j_goto (pc := 46) C dX3_turnArm_46 (tgt := 50) (by decide) ?_
      refine j_loc [1, 2] rfl ?_
      exact t_X3_turnArm_b50 C  x0 x1 (4 : Int32) M
  · refine j_iconst (pc := 36) C dX3_turnArm_36 (v := 0) rfl ?_
    refine j_goto (pc := 37) C dX3_turnArm_37 (tgt := 50) (by decide) ?_
    refine j_loc [1, 2] rfl ?_
    exact t_X3_turnArm_b50 C  x0 x1 (0 : Int32) M
def f_X3_turnArm (z : Sh9) (a0 : Nat) (a1 : Int32) (M : Mem9) : Re9 :=
  (bi9 (f_X3_of z a0 a1 (5 : Int32) M) fun v2 M1 => (if v2 = (1 : Int32) then (rv9 M1) else (bi9 (f_X3_of z a0 a1 (1 : Int32) M1) fun v4 M3 => (bi9 (f_X3_reason z a0 a1 M3) fun v6 M5 => (if v6 ≤ 0 then (f_X3_turnArm_b30 z  a0 a1 (-1 : Int32) v4 M5) else (f_X3_turnArm_b30 z  a0 a1 (1 : Int32) v4 M5))))))
set_option maxRecDepth 20000 in
set_option maxHeartbeats 4000000 in
theorem t_X3_turnArm {z : Sh9} {N : Nv9} {X : Cx9} {out : Out9 × Mem9} (C : OK9 z N X out 4 (co9 out.1) cX3_turnArm RX3 5 0 []) (a0 : Nat) (a1 : Int32) (M : Mem9) : J9 z N X out 4 0 [(0, .ref a0), (1, .int a1)] [] M (0, 0) (f_X3_turnArm z a0 a1 M) := by
  refine j_aload_n (pc := 0) C dX3_turnArm_0 rfl ?_
  refine j_iload_n (pc := 1) C dX3_turnArm_1 rfl ?_
  refine j_iconst (pc := 2) C dX3_turnArm_2 (v := 5) rfl ?_
  refine j_callSi (pc := 3) C rfl dX3_turnArm_3 ls_X3_48 rfl (Nat.le_of_ble_eq_true rfl) (Nat.le_of_ble_eq_true rfl) (by decide) (Or.inl rfl) ⟨Nat.le_refl _, Nat.le_refl _⟩ (fun l hl o ho => sp_X3_of hl ho) (fun v2 M1 => ?_)
  refine j_iconst (pc := 6) C dX3_turnArm_6 (v := 1) rfl ?_
  refine j_icmp_ne (pc := 7) C dX3_turnArm_7 (tgt := 11) (by decide) (fun hc8 => ?_) (fun hc8 => ?_)
  · refine j_aload_n (pc := 11) C dX3_turnArm_11 rfl ?_
    refine j_iload_n (pc := 12) C dX3_turnArm_12 rfl ?_
    refine j_iconst (pc := 13) C dX3_turnArm_13 (v := 1) rfl ?_
    refine j_callSi (pc := 14) C rfl dX3_turnArm_14 ls_X3_48 rfl (Nat.le_of_ble_eq_true rfl) (Nat.le_of_ble_eq_true rfl) (by decide) (Or.inl rfl) ⟨Nat.le_refl _, Nat.le_refl _⟩ (fun l hl o ho => sp_X3_of hl ho) (fun v4 M3 => ?_)
    refine j_aload_n (pc := 17) C dX3_turnArm_17 rfl ?_
    refine j_iload_n (pc := 18) C dX3_turnArm_18 rfl ?_
    refine j_callSi (pc := 19) C rfl dX3_turnArm_19 ls_X3_83 rfl (Nat.le_of_ble_eq_true rfl) (Nat.le_of_ble_eq_true rfl) (by decide) (Or.inl rfl) ⟨Nat.le_refl _, Nat.le_refl _⟩ (fun l hl o ho => sp_X3_reason hl ho) (fun v6 M5 => ?_)
    refine j_if_le (pc := 22) C dX3_turnArm_22 (tgt := 29) (by decide) (fun hc7 => ?_) (fun hc7 => ?_)
    · refine j_iconst (pc := 29) C dX3_turnArm_29 (v := -1) rfl ?_
      exact t_X3_turnArm_b30 C  a0 a1 (-1 : Int32) v4 M5
    · refine j_iconst (pc := 25) C dX3_turnArm_25 (v := 1) rfl ?_
      refine j_goto (pc := 26) C dX3_turnArm_26 (tgt := 30) (by decide) ?_
      exact t_X3_turnArm_b30 C  a0 a1 (1 : Int32) v4 M5
  · exact j_return (pc := 10) C rfl dX3_turnArm_10 ⟨Nat.zero_le _, Nat.zero_le _⟩
theorem sp_X3_turnArm {l : Launch} {z : Sh9} {N : Nv9} {a0 : Nat} {a1 : Int32} {M : Mem9} {o : Out9 × Mem9} (hl : l.stackTraces = false) (h : f_X3_turnArm z a0 a1 M = some o) : Sp9 l z N yX3_turnArm (Cond.code yX3_turnArm cX3_turnArm 4 none) 5 [.ref a0, .int a1] M (co9 o.1) o :=
  sp9_of (rk := 0) (own := RX3) (by decide +kernel) rfl (Or.inl ⟨rfl, rfl⟩) hl (Nat.le_of_ble_eq_true rfl) (fun X C => t_X3_turnArm C a0 a1 M) h
def f_X3_tickOn_b45 (z : Sh9) (r2 : Nat → Nat → Int32 → Mem9 → Re9) (x0 : Nat) (x1 : Nat) (x2 : Int32) (s0 : Int32) (s1 : Int32) (s2 : Nat) (M : Mem9) : Re9 :=
  ((pf9 z M s2 3 10 (s1 + s0)).bind fun M12 => (bv9 (f_X3_hit z x1 x2 M12) fun M13 => (bv9 (iv9 z x0 3 (f_X3_goThrough z x0 x1 x2 M13)) fun M14 => (r2 x0 x1 (x2 + (1 : Int32)) M14))))
set_option maxRecDepth 20000 in
set_option maxHeartbeats 4000000 in
theorem t_X3_tickOn_b45 {z : Sh9} {N : Nv9} {X : Cx9} {out : Out9 × Mem9} (C : OK9 z N X out 3 (co9 out.1) cX3_tickOn RX3 6 0 []) {r2 : Nat → Nat → Int32 → Mem9 → Re9} (h2 : ∀ (x0 : Nat) (x1 : Nat) (x2 : Int32) (M : Mem9), J9 z N X out 3 2 [(0, .ref x0), (1, .ref x1), (2, .int x2)] [] M (0, 0) (r2 x0 x1 x2 M)) (x0 : Nat) (x1 : Nat) (x2 : Int32) (s0 : Int32) (s1 : Int32) (s2 : Nat) (M : Mem9) : J9 z N X out 3 45 [(0, .ref x0), (1, .ref x1), (2, .int x2)] [.int s0, .int s1, .ref s2] M (0, 0) (f_X3_tickOn_b45 z r2 x0 x1 x2 s0 s1 s2 M) := by
  refine j_iadd (pc := 45) C dX3_tickOn_45 ?_
  refine j_putI (pc := 46) C dX3_tickOn_46 fl_X3_98 fi_X3_10 rfl rfl (fun M12 => ?_)
  refine j_aload_n (pc := 49) C dX3_tickOn_49 rfl ?_
  refine j_iload_n (pc := 50) C dX3_tickOn_50 rfl ?_
  refine j_callSv (pc := 51) C rfl dX3_tickOn_51 ls_X3_101 rfl (Nat.le_of_ble_eq_true rfl) (Nat.le_of_ble_eq_true rfl) (by decide) (Or.inl rfl) ⟨Nat.le_refl _, Nat.le_refl _⟩ (fun l hl o ho => sp_X3_hit hl ho) (fun M13 => ?_)
  refine j_aload_n (pc := 54) C dX3_tickOn_54 rfl ?_
  refine j_aload_n (pc := 55) C dX3_tickOn_55 rfl ?_
  refine j_iload_n (pc := 56) C dX3_tickOn_56 rfl ?_
  refine j_callVv (pc := 57) C rfl dX3_tickOn_57 lv_X3_104 rfl (Nat.le_of_ble_eq_true rfl) (Nat.le_of_ble_eq_true rfl) (by decide) (Or.inl rfl) ⟨Nat.le_refl _, Nat.le_refl _⟩ (fun l hl o ho => sp_X3_goThrough hl ho) (fun M14 => ?_)
  refine j_iinc (pc := 60) C dX3_tickOn_60 rfl (v := (x2 + (1 : Int32))) rfl (Nat.le_of_ble_eq_true rfl) (ls' := [(2, .int (x2 + (1 : Int32))), (0, .ref x0), (1, .ref x1)]) rfl ?_
  refine j_goto (pc := 63) C dX3_tickOn_63 (tgt := 2) (by decide) ?_
  refine j_loc [1, 2, 0] rfl ?_
  exact h2 x0 x1 (x2 + (1 : Int32)) M14
def f_X3_tickOn_b2 (z : Sh9) (r2 : Nat → Nat → Int32 → Mem9 → Re9) (x0 : Nat) (x1 : Nat) (x2 : Int32) (M : Mem9) : Re9 :=
  ((ld9 z M 10 x1 (0 : Int32)).bind fun v1 => (if v1 ≤ x2 then ((ld9 z M 10 x1 (1 : Int32)).bind fun v2 => ((st9 z M x1 (1 : Int32) (v2 + (1 : Int32))).bind fun M3 => (rv9 M3))) else (bv9 (iv9 z x0 3 (f_X3_moveAll z x0 x1 x2 M)) fun M4 => (bv9 (f_X3_check z x1 x2 M4) fun M5 => (bv9 (f_X3_turnArm z x1 x2 M5) fun M6 => ((gf9 z M6 x0 3 10).bind fun v7 => (bi9 (f_X3_of z x1 x2 (1 : Int32) M6) fun v9 M8 => (if v9 = (4 : Int32) then (f_X3_tickOn_b45 z r2 x0 x1 x2 (1 : Int32) v7 x0 M8) else (f_X3_tickOn_b45 z r2 x0 x1 x2 (0 : Int32) v7 x0 M8)))))))))
set_option maxRecDepth 20000 in
set_option maxHeartbeats 4000000 in
theorem t_X3_tickOn_b2 {z : Sh9} {N : Nv9} {X : Cx9} {out : Out9 × Mem9} (C : OK9 z N X out 3 (co9 out.1) cX3_tickOn RX3 6 0 []) {r2 : Nat → Nat → Int32 → Mem9 → Re9} (h2 : ∀ (x0 : Nat) (x1 : Nat) (x2 : Int32) (M : Mem9), J9 z N X out 3 2 [(0, .ref x0), (1, .ref x1), (2, .int x2)] [] M (0, 0) (r2 x0 x1 x2 M)) (x0 : Nat) (x1 : Nat) (x2 : Int32) (M : Mem9) : J9 z N X out 3 2 [(0, .ref x0), (1, .ref x1), (2, .int x2)] [] M (0, 0) (f_X3_tickOn_b2 z r2 x0 x1 x2 M) := by
  refine j_iload_n (pc := 2) C dX3_tickOn_2 rfl ?_
  refine j_aload_n (pc := 3) C dX3_tickOn_3 rfl ?_
  refine j_iconst (pc := 4) C dX3_tickOn_4 (v := 0) rfl ?_
  refine j_iaload (pc := 5) C dX3_tickOn_5 (fun v1 => ?_)
  refine j_icmp_ge (pc := 6) C dX3_tickOn_6 (tgt := 66) (by decide) (fun hc11 => ?_) (fun hc11 => ?_)
  · refine j_aload_n (pc := 66) C dX3_tickOn_66 rfl ?_
    refine j_iconst (pc := 67) C dX3_tickOn_67 (v := 1) rfl ?_
    refine j_dup2_11 (pc := 68) C dX3_tickOn_68 rfl rfl ?_
    refine j_iaload (pc := 69) C dX3_tickOn_69 (fun v2 => ?_)
    refine j_iconst (pc := 70) C dX3_tickOn_70 (v := 1) rfl ?_
    refine j_iadd (pc := 71) C dX3_tickOn_71 ?_
    refine j_iastore (pc := 72) C dX3_tickOn_72 (fun M3 => ?_)
    exact j_return (pc := 73) C rfl dX3_tickOn_73 ⟨Nat.zero_le _, Nat.zero_le _⟩
  · refine j_aload_n (pc := 9) C dX3_tickOn_9 rfl ?_
    refine j_aload_n (pc := 10) C dX3_tickOn_10 rfl ?_
    refine j_iload_n (pc := 11) C dX3_tickOn_11 rfl ?_
    refine j_callVv (pc := 12) C rfl dX3_tickOn_12 lv_X3_89 rfl (Nat.le_of_ble_eq_true rfl) (Nat.le_of_ble_eq_true rfl) (by decide) (Or.inl rfl) ⟨Nat.le_refl _, Nat.le_refl _⟩ (fun l hl o ho => sp_X3_moveAll hl ho) (fun M4 => ?_)
    refine j_aload_n (pc := 15) C dX3_tickOn_15 rfl ?_
    refine j_iload_n (pc := 16) C dX3_tickOn_16 rfl ?_
    refine j_callSv (pc := 17) C rfl dX3_tickOn_17 ls_X3_92 rfl (Nat.le_of_ble_eq_true rfl) (Nat.le_of_ble_eq_true rfl) (by decide) (Or.inl rfl) ⟨Nat.le_refl _, Nat.le_refl _⟩ (fun l hl o ho => sp_X3_check hl ho) (fun M5 => ?_)
    refine j_aload_n (pc := 20) C dX3_tickOn_20 rfl ?_
    refine j_iload_n (pc := 21) C dX3_tickOn_21 rfl ?_
    refine j_callSv (pc := 22) C rfl dX3_tickOn_22 ls_X3_95 rfl (Nat.le_of_ble_eq_true rfl) (Nat.le_of_ble_eq_true rfl) (by decide) (Or.inl rfl) ⟨Nat.le_refl _, Nat.le_refl _⟩ (fun l hl o ho => sp_X3_turnArm hl ho) (fun M6 => ?_)
    refine j_aload_n (pc := 25) C dX3_tickOn_25 rfl ?_
    refine j_dup (pc := 26) C dX3_tickOn_26 rfl ?_
    refine j_getI (pc := 27) C dX3_tickOn_27 fl_X3_98 fi_X3_10 (fun v7 => ?_)
    refine j_aload_n (pc := 30) C dX3_tickOn_30 rfl ?_
    refine j_iload_n (pc := 31) C dX3_tickOn_31 rfl ?_
    refine j_iconst (pc := 32) C dX3_tickOn_32 (v := 1) rfl ?_
    refine j_callSi (pc := 33) C rfl dX3_tickOn_33 ls_X3_48 rfl (Nat.le_of_ble_eq_true rfl) (Nat.le_of_ble_eq_true rfl) (by decide) (Or.inl rfl) ⟨Nat.le_refl _, Nat.le_refl _⟩ (fun l hl o ho => sp_X3_of hl ho) (fun v9 M8 => ?_)
    refine j_iconst (pc := 36) C dX3_tickOn_36 (v := 4) rfl ?_
    refine j_icmp_ne (pc := 37) C dX3_tickOn_37 (tgt := 44) (by decide) (fun hc10 => ?_) (fun hc10 => ?_)
    · refine j_iconst (pc := 44) C dX3_tickOn_44 (v := 0) rfl ?_
      exact t_X3_tickOn_b45 C h2 x0 x1 x2 (0 : Int32) v7 x0 M8
    · refine j_iconst (pc := 40) C dX3_tickOn_40 (v := 1) rfl ?_
      refine j_goto (pc := 41) C dX3_tickOn_41 (tgt := 45) (by decide) ?_
      exact t_X3_tickOn_b45 C h2 x0 x1 x2 (1 : Int32) v7 x0 M8
theorem t_X3_tickOn_l2 {z : Sh9} {N : Nv9} {X : Cx9} {out : Out9 × Mem9} (C : OK9 z N X out 3 (co9 out.1) cX3_tickOn RX3 6 0 [])  : ∀ (n : Nat) (x0 : Nat) (x1 : Nat) (x2 : Int32) (M : Mem9), J9 z N X out 3 2 [(0, .ref x0), (1, .ref x1), (2, .int x2)] [] M (0, 0) (fx9 (fun _ _ _ _ => none) (f_X3_tickOn_b2 z ) n x0 x1 x2 M) := by
  intro n
  induction n with
  | zero => intro x0 x1 x2 M; exact j_none
  | succ n ih => intro x0 x1 x2 M; exact t_X3_tickOn_b2 C  ih x0 x1 x2 M
def f_X3_tickOn (z : Sh9) (a0 : Nat) (a1 : Nat) (M : Mem9) : Re9 :=
  (fx9 (fun _ _ _ _ => none) (f_X3_tickOn_b2 z ) FU9 a0 a1 (0 : Int32) M)
set_option maxRecDepth 20000 in
set_option maxHeartbeats 4000000 in
theorem t_X3_tickOn {z : Sh9} {N : Nv9} {X : Cx9} {out : Out9 × Mem9} (C : OK9 z N X out 3 (co9 out.1) cX3_tickOn RX3 6 0 []) (a0 : Nat) (a1 : Nat) (M : Mem9) : J9 z N X out 3 0 [(0, .ref a0), (1, .ref a1)] [] M (0, 0) (f_X3_tickOn z a0 a1 M) := by
  refine j_iconst (pc := 0) C dX3_tickOn_0 (v := 0) rfl ?_
  refine j_istore_n (pc := 1) C dX3_tickOn_1 (Nat.le_of_ble_eq_true rfl) (ls' := [(2, .int (0 : Int32)), (0, .ref a0), (1, .ref a1)]) rfl ?_
  refine j_loc [1, 2, 0] rfl ?_
  exact t_X3_tickOn_l2 C  FU9 a0 a1 (0 : Int32) M
theorem sp_X3_tickOn {l : Launch} {z : Sh9} {N : Nv9} {a0 : Nat} {a1 : Nat} {M : Mem9} {o : Out9 × Mem9} (hl : l.stackTraces = false) (h : f_X3_tickOn z a0 a1 M = some o) : Sp9 l z N yX3_tickOn (Cond.code yX3_tickOn cX3_tickOn 3 none) 6 [.ref a0, .ref a1] M (co9 o.1) o :=
  sp9_of (rk := 0) (own := RX3) (by decide +kernel) rfl (Or.inl ⟨rfl, rfl⟩) hl (Nat.le_of_ble_eq_true rfl) (fun X C => t_X3_tickOn C a0 a1 M) h
def f_X3_through_b6 (z : Sh9) (r6 : Nat → Nat → Int32 → Int32 → Int32 → Mem9 → Re9) (x0 : Nat) (x1 : Nat) (x2 : Int32) (x4 : Int32) (x5 : Int32) (M : Mem9) : Re9 :=
  (if (400 : Int32) < x5 then (ri9 (-1 : Int32) M) else (bi9 (f_X3_last z x1 x2 x4 M) fun v2 M1 => (if v2 ≤ (20 : Int32) then (bi9 (f_X3_of z x1 x2 (0 : Int32) M1) fun v4 M3 => (bv9 (iv9 z x0 3 (f_X3_tickOn z x0 x1 M3)) fun M5 => (bi9 (f_X3_of z x1 x2 (0 : Int32) M5) fun v7 M6 => (nm9 (x4 - (v4 - v7)) fun (y8 : Int32) => (r6 x0 x1 x2 y8 (x5 + (1 : Int32)) M6))))) else (ri9 x5 M1))))
set_option maxRecDepth 20000 in
set_option maxHeartbeats 4000000 in
theorem t_X3_through_b6 {z : Sh9} {N : Nv9} {X : Cx9} {out : Out9 × Mem9} (C : OK9 z N X out 7 (co9 out.1) cX3_through RX3 7 1 []) {r6 : Nat → Nat → Int32 → Int32 → Int32 → Mem9 → Re9} (h6 : ∀ (x0 : Nat) (x1 : Nat) (x2 : Int32) (x4 : Int32) (x5 : Int32) (M : Mem9), J9 z N X out 7 6 [(0, .ref x0), (1, .ref x1), (2, .int x2), (4, .int x4), (5, .int x5)] [] M (0, 0) (r6 x0 x1 x2 x4 x5 M)) (x0 : Nat) (x1 : Nat) (x2 : Int32) (x4 : Int32) (x5 : Int32) (M : Mem9) : J9 z N X out 7 6 [(0, .ref x0), (1, .ref x1), (2, .int x2), (4, .int x4), (5, .int x5)] [] M (0, 0) (f_X3_through_b6 z r6 x0 x1 x2 x4 x5 M) := by
  refine j_iload (pc := 6) C dX3_through_6 rfl ?_
  refine j_sipush (pc := 8) C dX3_through_8 (v := 400) rfl ?_
  refine j_icmp_gt (pc := 11) C dX3_through_11 (tgt := 62) (by decide) (fun hc10 => ?_) (fun hc10 => ?_)
  · refine j_iconst (pc := 62) C dX3_through_62 (v := -1) rfl ?_
    exact j_ireturn (pc := 63) C rfl dX3_through_63 ⟨Nat.zero_le _, Nat.zero_le _⟩
  · refine j_aload_n (pc := 14) C dX3_through_14 rfl ?_
    refine j_iload_n (pc := 15) C dX3_through_15 rfl ?_
    refine j_iload (pc := 16) C dX3_through_16 rfl ?_
    refine j_callSi (pc := 18) C rfl dX3_through_18 ls_X3_60 rfl (Nat.le_of_ble_eq_true rfl) (Nat.le_of_ble_eq_true rfl) (by decide) (Or.inl rfl) ⟨Nat.le_refl _, Nat.le_refl _⟩ (fun l hl o ho => sp_X3_last hl ho) (fun v2 M1 => ?_)
    refine j_bipush (pc := 21) C dX3_through_21 (v := 20) rfl ?_
    refine j_icmp_le (pc := 23) C dX3_through_23 (tgt := 29) (by decide) (fun hc9 => ?_) (fun hc9 => ?_)
    · refine j_aload_n (pc := 29) C dX3_through_29 rfl ?_
      refine j_iload_n (pc := 30) C dX3_through_30 rfl ?_
      refine j_iconst (pc := 31) C dX3_through_31 (v := 0) rfl ?_
      refine j_callSi (pc := 32) C rfl dX3_through_32 ls_X3_48 rfl (Nat.le_of_ble_eq_true rfl) (Nat.le_of_ble_eq_true rfl) (by decide) (Or.inl rfl) ⟨Nat.le_refl _, Nat.le_refl _⟩ (fun l hl o ho => sp_X3_of hl ho) (fun v4 M3 => ?_)
      refine j_istore (pc := 35) C dX3_through_35 (Nat.le_of_ble_eq_true rfl) (ls' := [(6, .int v4), (0, .ref x0), (1, .ref x1), (2, .int x2), (4, .int x4), (5, .int x5)]) rfl ?_
      refine j_aload_n (pc := 37) C dX3_through_37 rfl ?_
      refine j_aload_n (pc := 38) C dX3_through_38 rfl ?_
      refine j_callVv (pc := 39) C rfl dX3_through_39 lv_X3_107 rfl (Nat.le_of_ble_eq_true rfl) (Nat.le_of_ble_eq_true rfl) (by decide) (Or.inl rfl) ⟨Nat.le_refl _, Nat.le_refl _⟩ (fun l hl o ho => sp_X3_tickOn hl ho) (fun M5 => ?_)
      refine j_iload (pc := 42) C dX3_through_42 rfl ?_
      refine j_iload (pc := 44) C dX3_through_44 rfl ?_
      refine j_aload_n (pc := 46) C dX3_through_46 rfl ?_
      refine j_iload_n (pc := 47) C dX3_through_47 rfl ?_
      refine j_iconst (pc := 48) C dX3_through_48 (v := 0) rfl ?_
      refine j_callSi (pc := 49) C rfl dX3_through_49 ls_X3_48 rfl (Nat.le_of_ble_eq_true rfl) (Nat.le_of_ble_eq_true rfl) (by decide) (Or.inl rfl) ⟨Nat.le_refl _, Nat.le_refl _⟩ (fun l hl o ho => sp_X3_of hl ho) (fun v7 M6 => ?_)
      refine j_isub (pc := 52) C dX3_through_52 ?_
      refine j_isub (pc := 53) C dX3_through_53 ?_
      refine j_nm (st' := fun x9 : Int32 => .int x9 :: []) rfl (fun y8 => ?_)
      refine j_istore (pc := 54) C dX3_through_54 (Nat.le_of_ble_eq_true rfl) (ls' := [(4, .int y8), (6, .int v4), (0, .ref x0), (1, .ref x1), (2, .int x2), (5, .int x5)]) rfl ?_
      refine j_iinc (pc := 56) C dX3_through_56 rfl (v := (x5 + (1 : Int32))) rfl (Nat.le_of_ble_eq_true rfl) (ls' := [(5, .int (x5 + (1 : Int32))), (4, .int y8), (6, .int v4), (0, .ref x0), (1, .ref x1), (2, .int x2)]) rfl ?_
      refine j_goto (pc := 59) C dX3_through_59 (tgt := 6) (by decide) ?_
      refine j_loc [3, 4, 5, 1, 0] rfl ?_
      exact h6 x0 x1 x2 y8 (x5 + (1 : Int32)) M6
    · refine j_iload (pc := 26) C dX3_through_26 rfl ?_
      exact j_ireturn (pc := 28) C rfl dX3_through_28 ⟨Nat.zero_le _, Nat.zero_le _⟩
theorem t_X3_through_l6 {z : Sh9} {N : Nv9} {X : Cx9} {out : Out9 × Mem9} (C : OK9 z N X out 7 (co9 out.1) cX3_through RX3 7 1 [])  : ∀ (n : Nat) (x0 : Nat) (x1 : Nat) (x2 : Int32) (x4 : Int32) (x5 : Int32) (M : Mem9), J9 z N X out 7 6 [(0, .ref x0), (1, .ref x1), (2, .int x2), (4, .int x4), (5, .int x5)] [] M (0, 0) (fx9 (fun _ _ _ _ _ _ => none) (f_X3_through_b6 z ) n x0 x1 x2 x4 x5 M) := by
  intro n
  induction n with
  | zero => intro x0 x1 x2 x4 x5 M; exact j_none
  | succ n ih => intro x0 x1 x2 x4 x5 M; exact t_X3_through_b6 C  ih x0 x1 x2 x4 x5 M
def f_X3_through (z : Sh9) (a0 : Nat) (a1 : Nat) (a2 : Int32) (a3 : Int32) (M : Mem9) : Re9 :=
  (fx9 (fun _ _ _ _ _ _ => none) (f_X3_through_b6 z ) FU9 a0 a1 a2 a3 (0 : Int32) M)
set_option maxRecDepth 20000 in
set_option maxHeartbeats 4000000 in
theorem t_X3_through {z : Sh9} {N : Nv9} {X : Cx9} {out : Out9 × Mem9} (C : OK9 z N X out 7 (co9 out.1) cX3_through RX3 7 1 []) (a0 : Nat) (a1 : Nat) (a2 : Int32) (a3 : Int32) (M : Mem9) : J9 z N X out 7 0 [(0, .ref a0), (1, .ref a1), (2, .int a2), (3, .int a3)] [] M (0, 0) (f_X3_through z a0 a1 a2 a3 M) := by
  refine j_iload_n (pc := 0) C dX3_through_0 rfl ?_
  refine j_istore (pc := 1) C dX3_through_1 (Nat.le_of_ble_eq_true rfl) (ls' := [(4, .int a3), (0, .ref a0), (1, .ref a1), (2, .int a2), (3, .int a3)]) rfl ?_
  refine j_iconst (pc := 3) C dX3_through_3 (v := 0) rfl ?_
  refine j_istore (pc := 4) C dX3_through_4 (Nat.le_of_ble_eq_true rfl) (ls' := [(5, .int (0 : Int32)), (4, .int a3), (0, .ref a0), (1, .ref a1), (2, .int a2), (3, .int a3)]) rfl ?_
  refine j_loc [2, 3, 4, 1, 0] rfl ?_
  exact t_X3_through_l6 C  FU9 a0 a1 a2 a3 (0 : Int32) M
theorem sp_X3_through {l : Launch} {z : Sh9} {N : Nv9} {a0 : Nat} {a1 : Nat} {a2 : Int32} {a3 : Int32} {M : Mem9} {o : Out9 × Mem9} (hl : l.stackTraces = false) (h : f_X3_through z a0 a1 a2 a3 M = some o) : Sp9 l z N yX3_through (Cond.code yX3_through cX3_through 7 (some .int)) 7 [.ref a0, .ref a1, .int a2, .int a3] M (co9 o.1) o :=
  sp9_of (rk := 1) (own := RX3) (by decide +kernel) rfl (Or.inr (Or.inl ⟨rfl, rfl⟩)) hl (Nat.le_of_ble_eq_true rfl) (fun X C => t_X3_through C a0 a1 a2 a3 M) h
def f_X3_bestLane_b140 (z : Sh9) (r28 : Nat → Int32 → Int32 → Int32 → Int32 → Mem9 → Re9) (x0 : Nat) (x1 : Int32) (x2 : Int32) (x4 : Int32) (s0 : Int32) (M : Mem9) : Re9 :=
  (r28 x0 x1 x2 s0 (x4 + (1 : Int32)) M)
set_option maxRecDepth 20000 in
set_option maxHeartbeats 4000000 in
theorem t_X3_bestLane_b140 {z : Sh9} {N : Nv9} {X : Cx9} {out : Out9 × Mem9} (C : OK9 z N X out 7 (co9 out.1) cX3_bestLane RX3 8 1 []) {r28 : Nat → Int32 → Int32 → Int32 → Int32 → Mem9 → Re9} (h28 : ∀ (x0 : Nat) (x1 : Int32) (x2 : Int32) (x3 : Int32) (x4 : Int32) (M : Mem9), J9 z N X out 7 28 [(0, .ref x0), (1, .int x1), (2, .int x2), (3, .int x3), (4, .int x4)] [] M (0, 0) (r28 x0 x1 x2 x3 x4 M)) (x0 : Nat) (x1 : Int32) (x2 : Int32) (x4 : Int32) (s0 : Int32) (M : Mem9) : J9 z N X out 7 140 [(0, .ref x0), (1, .int x1), (2, .int x2), (4, .int x4)] [.int s0] M (0, 0) (f_X3_bestLane_b140 z r28 x0 x1 x2 x4 s0 M) := by
  refine j_istore_n (pc := 140) C dX3_bestLane_140 (Nat.le_of_ble_eq_true rfl) (ls' := [(3, .int s0), (0, .ref x0), (1, .int x1), (2, .int x2), (4, .int x4)]) rfl ?_
  refine j_iinc (pc := 141) C dX3_bestLane_141 rfl (v := (x4 + (1 : Int32))) rfl (Nat.le_of_ble_eq_true rfl) (ls' := [(4, .int (x4 + (1 : Int32))), (3, .int s0), (0, .ref x0), (1, .int x1), (2, .int x2)]) rfl ?_
  refine j_goto (pc := 144) C dX3_bestLane_144 (tgt := 28) (by decide) ?_
  refine j_loc [2, 3, 4, 1, 0] rfl ?_
  exact h28 x0 x1 x2 s0 (x4 + (1 : Int32)) M
def f_X3_bestLane_b128 (z : Sh9) (r28 : Nat → Int32 → Int32 → Int32 → Int32 → Mem9 → Re9) (x0 : Nat) (x1 : Int32) (x3 : Int32) (x4 : Int32) (x5 : Int32) (x6 : Int32) (s0 : Int32) (M : Mem9) : Re9 :=
  (if x6 = 0 then (f_X3_bestLane_b140 z r28 x0 x1 s0 x4 x3 M) else (f_X3_bestLane_b140 z r28 x0 x1 s0 x4 x5 M))
set_option maxRecDepth 20000 in
set_option maxHeartbeats 4000000 in
theorem t_X3_bestLane_b128 {z : Sh9} {N : Nv9} {X : Cx9} {out : Out9 × Mem9} (C : OK9 z N X out 7 (co9 out.1) cX3_bestLane RX3 8 1 []) {r28 : Nat → Int32 → Int32 → Int32 → Int32 → Mem9 → Re9} (h28 : ∀ (x0 : Nat) (x1 : Int32) (x2 : Int32) (x3 : Int32) (x4 : Int32) (M : Mem9), J9 z N X out 7 28 [(0, .ref x0), (1, .int x1), (2, .int x2), (3, .int x3), (4, .int x4)] [] M (0, 0) (r28 x0 x1 x2 x3 x4 M)) (x0 : Nat) (x1 : Int32) (x3 : Int32) (x4 : Int32) (x5 : Int32) (x6 : Int32) (s0 : Int32) (M : Mem9) : J9 z N X out 7 128 [(0, .ref x0), (1, .int x1), (3, .int x3), (4, .int x4), (5, .int x5), (6, .int x6)] [.int s0] M (0, 0) (f_X3_bestLane_b128 z r28 x0 x1 x3 x4 x5 x6 s0 M) := by
  refine j_istore_n (pc := 128) C dX3_bestLane_128 (Nat.le_of_ble_eq_true rfl) (ls' := [(2, .int s0), (0, .ref x0), (1, .int x1), (3, .int x3), (4, .int x4), (5, .int x5), (6, .int x6)]) rfl ?_
  refine j_iload (pc := 129) C dX3_bestLane_129 rfl ?_
  refine j_if_eq (pc := 131) C dX3_bestLane_131 (tgt := 139) (by decide) (fun hc27 => ?_) (fun hc27 => ?_)
  · refine j_iload_n (pc := 139) C dX3_bestLane_139 rfl ?_
    refine j_loc [1, 2, 0, 4] rfl ?_
    exact t_X3_bestLane_b140 C h28 x0 x1 s0 x4 x3 M
  · refine j_iload (pc := 134) C dX3_bestLane_134 rfl ?_
    refine j_goto (pc := 136) C dX3_bestLane_136 (tgt := 140) (by decide) ?_
    refine j_loc [1, 2, 0, 4] rfl ?_
    exact t_X3_bestLane_b140 C h28 x0 x1 s0 x4 x5 M
def f_X3_bestLane_b115 (z : Sh9) (r28 : Nat → Int32 → Int32 → Int32 → Int32 → Mem9 → Re9) (x0 : Nat) (x1 : Int32) (x2 : Int32) (x3 : Int32) (x4 : Int32) (x5 : Int32) (s0 : Int32) (M : Mem9) : Re9 :=
  (if s0 = 0 then (f_X3_bestLane_b128 z r28 x0 x1 x3 x4 x5 s0 x2 M) else (f_X3_bestLane_b128 z r28 x0 x1 x3 x4 x5 s0 x4 M))
set_option maxRecDepth 20000 in
set_option maxHeartbeats 4000000 in
theorem t_X3_bestLane_b115 {z : Sh9} {N : Nv9} {X : Cx9} {out : Out9 × Mem9} (C : OK9 z N X out 7 (co9 out.1) cX3_bestLane RX3 8 1 []) {r28 : Nat → Int32 → Int32 → Int32 → Int32 → Mem9 → Re9} (h28 : ∀ (x0 : Nat) (x1 : Int32) (x2 : Int32) (x3 : Int32) (x4 : Int32) (M : Mem9), J9 z N X out 7 28 [(0, .ref x0), (1, .int x1), (2, .int x2), (3, .int x3), (4, .int x4)] [] M (0, 0) (r28 x0 x1 x2 x3 x4 M)) (x0 : Nat) (x1 : Int32) (x2 : Int32) (x3 : Int32) (x4 : Int32) (x5 : Int32) (s0 : Int32) (M : Mem9) : J9 z N X out 7 115 [(0, .ref x0), (1, .int x1), (2, .int x2), (3, .int x3), (4, .int x4), (5, .int x5)] [.int s0] M (0, 0) (f_X3_bestLane_b115 z r28 x0 x1 x2 x3 x4 x5 s0 M) := by
  refine j_istore (pc := 115) C dX3_bestLane_115 (Nat.le_of_ble_eq_true rfl) (ls' := [(6, .int s0), (0, .ref x0), (1, .int x1), (2, .int x2), (3, .int x3), (4, .int x4), (5, .int x5)]) rfl ?_
  refine j_iload (pc := 117) C dX3_bestLane_117 rfl ?_
  refine j_if_eq (pc := 119) C dX3_bestLane_119 (tgt := 127) (by decide) (fun hc26 => ?_) (fun hc26 => ?_)
  · refine j_iload_n (pc := 127) C dX3_bestLane_127 rfl ?_
    refine j_loc [1, 2, 4, 5, 6, 0] rfl ?_
    exact t_X3_bestLane_b128 C h28 x0 x1 x3 x4 x5 s0 x2 M
  · refine j_iload (pc := 122) C dX3_bestLane_122 rfl ?_
    refine j_goto (pc := 124) C dX3_bestLane_124 (tgt := 128) (by decide) ?_
    refine j_loc [1, 2, 4, 5, 6, 0] rfl ?_
    exact t_X3_bestLane_b128 C h28 x0 x1 x3 x4 x5 s0 x4 M
def f_X3_bestLane_b114 (z : Sh9) (r28 : Nat → Int32 → Int32 → Int32 → Int32 → Mem9 → Re9) (x0 : Nat) (x1 : Int32) (x2 : Int32) (x3 : Int32) (x4 : Int32) (x5 : Int32) (M : Mem9) : Re9 :=
  (f_X3_bestLane_b115 z r28 x0 x1 x2 x3 x4 x5 (0 : Int32) M)
set_option maxRecDepth 20000 in
set_option maxHeartbeats 4000000 in
theorem t_X3_bestLane_b114 {z : Sh9} {N : Nv9} {X : Cx9} {out : Out9 × Mem9} (C : OK9 z N X out 7 (co9 out.1) cX3_bestLane RX3 8 1 []) {r28 : Nat → Int32 → Int32 → Int32 → Int32 → Mem9 → Re9} (h28 : ∀ (x0 : Nat) (x1 : Int32) (x2 : Int32) (x3 : Int32) (x4 : Int32) (M : Mem9), J9 z N X out 7 28 [(0, .ref x0), (1, .int x1), (2, .int x2), (3, .int x3), (4, .int x4)] [] M (0, 0) (r28 x0 x1 x2 x3 x4 M)) (x0 : Nat) (x1 : Int32) (x2 : Int32) (x3 : Int32) (x4 : Int32) (x5 : Int32) (M : Mem9) : J9 z N X out 7 114 [(0, .ref x0), (1, .int x1), (2, .int x2), (3, .int x3), (4, .int x4), (5, .int x5)] [] M (0, 0) (f_X3_bestLane_b114 z r28 x0 x1 x2 x3 x4 x5 M) := by
  refine j_iconst (pc := 114) C dX3_bestLane_114 (v := 0) rfl ?_
  exact t_X3_bestLane_b115 C h28 x0 x1 x2 x3 x4 x5 (0 : Int32) M
def f_X3_bestLane_b110 (z : Sh9) (r28 : Nat → Int32 → Int32 → Int32 → Int32 → Mem9 → Re9) (x0 : Nat) (x1 : Int32) (x2 : Int32) (x3 : Int32) (x4 : Int32) (x5 : Int32) (M : Mem9) : Re9 :=
  (f_X3_bestLane_b115 z r28 x0 x1 x2 x3 x4 x5 (1 : Int32) M)
set_option maxRecDepth 20000 in
set_option maxHeartbeats 4000000 in
theorem t_X3_bestLane_b110 {z : Sh9} {N : Nv9} {X : Cx9} {out : Out9 × Mem9} (C : OK9 z N X out 7 (co9 out.1) cX3_bestLane RX3 8 1 []) {r28 : Nat → Int32 → Int32 → Int32 → Int32 → Mem9 → Re9} (h28 : ∀ (x0 : Nat) (x1 : Int32) (x2 : Int32) (x3 : Int32) (x4 : Int32) (M : Mem9), J9 z N X out 7 28 [(0, .ref x0), (1, .int x1), (2, .int x2), (3, .int x3), (4, .int x4)] [] M (0, 0) (r28 x0 x1 x2 x3 x4 M)) (x0 : Nat) (x1 : Int32) (x2 : Int32) (x3 : Int32) (x4 : Int32) (x5 : Int32) (M : Mem9) : J9 z N X out 7 110 [(0, .ref x0), (1, .int x1), (2, .int x2), (3, .int x3), (4, .int x4), (5, .int x5)] [] M (0, 0) (f_X3_bestLane_b110 z r28 x0 x1 x2 x3 x4 x5 M) := by
  refine j_iconst (pc := 110) C dX3_bestLane_110 (v := 1) rfl ?_
  refine j_goto (pc := 111) C dX3_bestLane_111 (tgt := 115) (by decide) ?_
  exact t_X3_bestLane_b115 C h28 x0 x1 x2 x3 x4 x5 (1 : Int32) M
def f_X3_bestLane_b28 (z : Sh9) (r28 : Nat → Int32 → Int32 → Int32 → Int32 → Mem9 → Re9) (x0 : Nat) (x1 : Int32) (x2 : Int32) (x3 : Int32) (x4 : Int32) (M : Mem9) : Re9 :=
  ((rf9 z x0 3 2).bind fun v7 => ((ld9 z M 10 v7 (0 : Int32)).bind fun v8 => (if v8 ≤ x4 then (ri9 x2 M) else ((rf9 z x0 3 2).bind fun v9 => (bi9 (f_X3_of z v9 x4 (0 : Int32) M) fun v11 M10 => (if (6 : Int32) ≤ v11 then (r28 x0 x1 x2 x3 (x4 + (1 : Int32)) M10) else ((rf9 z x0 3 2).bind fun v12 => ((rf9 z x0 3 3).bind fun v13 => (bv9 (f_X3_copyState z v12 (0 : Int32) v13 (0 : Int32) M10) fun M14 => ((rf9 z x0 3 3).bind fun v15 => ((rf9 z x0 3 3).bind fun v16 => (bi9 (f_X3_arriveOn z v16 x4 x1 (0 : Int32) (0 : Int32) M14) fun v18 M17 => (bi9 (iv9 z x0 3 (f_X3_through z x0 v15 x4 (v18 - (1 : Int32)) M17)) fun v20 M19 => (if v20 = (-1 : Int32) then (f_X3_bestLane_b114 z r28 x0 x1 x2 x3 x4 v20 M19) else (if x2 = (-1 : Int32) then (f_X3_bestLane_b110 z r28 x0 x1 x2 x3 x4 v20 M19) else (if x3 ≤ v20 then (f_X3_bestLane_b114 z r28 x0 x1 x2 x3 x4 v20 M19) else (f_X3_bestLane_b110 z r28 x0 x1 x2 x3 x4 v20 M19)))))))))))))))))
set_option maxRecDepth 20000 in
set_option maxHeartbeats 4000000 in
theorem t_X3_bestLane_b28 {z : Sh9} {N : Nv9} {X : Cx9} {out : Out9 × Mem9} (C : OK9 z N X out 7 (co9 out.1) cX3_bestLane RX3 8 1 []) {r28 : Nat → Int32 → Int32 → Int32 → Int32 → Mem9 → Re9} (h28 : ∀ (x0 : Nat) (x1 : Int32) (x2 : Int32) (x3 : Int32) (x4 : Int32) (M : Mem9), J9 z N X out 7 28 [(0, .ref x0), (1, .int x1), (2, .int x2), (3, .int x3), (4, .int x4)] [] M (0, 0) (r28 x0 x1 x2 x3 x4 M)) (x0 : Nat) (x1 : Int32) (x2 : Int32) (x3 : Int32) (x4 : Int32) (M : Mem9) : J9 z N X out 7 28 [(0, .ref x0), (1, .int x1), (2, .int x2), (3, .int x3), (4, .int x4)] [] M (0, 0) (f_X3_bestLane_b28 z r28 x0 x1 x2 x3 x4 M) := by
  refine j_iload (pc := 28) C dX3_bestLane_28 rfl ?_
  refine j_aload_n (pc := 30) C dX3_bestLane_30 rfl ?_
  refine j_getR (pc := 31) C dX3_bestLane_31 fl_X3_13 fr_X3_3 (fun v7 => ?_)
  refine j_iconst (pc := 34) C dX3_bestLane_34 (v := 0) rfl ?_
  refine j_iaload (pc := 35) C dX3_bestLane_35 (fun v8 => ?_)
  refine j_icmp_ge (pc := 36) C dX3_bestLane_36 (tgt := 147) (by decide) (fun hc25 => ?_) (fun hc25 => ?_)
  · refine j_iload_n (pc := 147) C dX3_bestLane_147 rfl ?_
    exact j_ireturn (pc := 148) C rfl dX3_bestLane_148 ⟨Nat.zero_le _, Nat.zero_le _⟩
  · refine j_aload_n (pc := 39) C dX3_bestLane_39 rfl ?_
    refine j_getR (pc := 40) C dX3_bestLane_40 fl_X3_13 fr_X3_3 (fun v9 => ?_)
    refine j_iload (pc := 43) C dX3_bestLane_43 rfl ?_
    refine j_iconst (pc := 45) C dX3_bestLane_45 (v := 0) rfl ?_
    refine j_callSi (pc := 46) C rfl dX3_bestLane_46 ls_X3_48 rfl (Nat.le_of_ble_eq_true rfl) (Nat.le_of_ble_eq_true rfl) (by decide) (Or.inl rfl) ⟨Nat.le_refl _, Nat.le_refl _⟩ (fun l hl o ho => sp_X3_of hl ho) (fun v11 M10 => ?_)
    refine j_bipush (pc := 49) C dX3_bestLane_49 (v := 6) rfl ?_
    refine j_icmp_ge (pc := 51) C dX3_bestLane_51 (tgt := 141) (by decide) (fun hc24 => ?_) (fun hc24 => ?_)
    · refine j_iinc (pc := 141) C dX3_bestLane_141 rfl (v := (x4 + (1 : Int32))) rfl (Nat.le_of_ble_eq_true rfl) (ls' := [(4, .int (x4 + (1 : Int32))), (0, .ref x0), (1, .int x1), (2, .int x2), (3, .int x3)]) rfl ?_
      refine j_goto (pc := 144) C dX3_bestLane_144 (tgt := 28) (by decide) ?_
      refine j_loc [1, 2, 3, 4, 0] rfl ?_
      exact h28 x0 x1 x2 x3 (x4 + (1 : Int32)) M10
    · refine j_aload_n (pc := 54) C dX3_bestLane_54 rfl ?_
      refine j_getR (pc := 55) C dX3_bestLane_55 fl_X3_13 fr_X3_3 (fun v12 => ?_)
      refine j_iconst (pc := 58) C dX3_bestLane_58 (v := 0) rfl ?_
      refine j_aload_n (pc := 59) C dX3_bestLane_59 rfl ?_
      refine j_getR (pc := 60) C dX3_bestLane_60 fl_X3_16 fr_X3_4 (fun v13 => ?_)
      refine j_iconst (pc := 63) C dX3_bestLane_63 (v := 0) rfl ?_
      refine j_callSv (pc := 64) C rfl dX3_bestLane_64 ls_X3_187 rfl (Nat.le_of_ble_eq_true rfl) (Nat.le_of_ble_eq_true rfl) (by decide) (Or.inl rfl) ⟨Nat.le_refl _, Nat.le_refl _⟩ (fun l hl o ho => sp_X3_copyState hl ho) (fun M14 => ?_)
      refine j_aload_n (pc := 67) C dX3_bestLane_67 rfl ?_
      refine j_aload_n (pc := 68) C dX3_bestLane_68 rfl ?_
      refine j_getR (pc := 69) C dX3_bestLane_69 fl_X3_16 fr_X3_4 (fun v15 => ?_)
      refine j_iload (pc := 72) C dX3_bestLane_72 rfl ?_
      refine j_aload_n (pc := 74) C dX3_bestLane_74 rfl ?_
      refine j_getR (pc := 75) C dX3_bestLane_75 fl_X3_16 fr_X3_4 (fun v16 => ?_)
      refine j_iload (pc := 78) C dX3_bestLane_78 rfl ?_
      refine j_iload_n (pc := 80) C dX3_bestLane_80 rfl ?_
      refine j_iconst (pc := 81) C dX3_bestLane_81 (v := 0) rfl ?_
      refine j_iconst (pc := 82) C dX3_bestLane_82 (v := 0) rfl ?_
      refine j_callSi (pc := 83) C rfl dX3_bestLane_83 ls_X3_163 rfl (Nat.le_of_ble_eq_true rfl) (Nat.le_of_ble_eq_true rfl) (by decide) (Or.inl rfl) ⟨Nat.le_refl _, Nat.le_refl _⟩ (fun l hl o ho => sp_X3_arriveOn hl ho) (fun v18 M17 => ?_)
      refine j_iconst (pc := 86) C dX3_bestLane_86 (v := 1) rfl ?_
      refine j_isub (pc := 87) C dX3_bestLane_87 ?_
      refine j_callVi (pc := 88) C rfl dX3_bestLane_88 lv_X3_211 rfl (Nat.le_of_ble_eq_true rfl) (Nat.le_of_ble_eq_true rfl) (by decide) (Or.inl rfl) ⟨Nat.le_refl _, Nat.le_refl _⟩ (fun l hl o ho => sp_X3_through hl ho) (fun v20 M19 => ?_)
      refine j_istore (pc := 91) C dX3_bestLane_91 (Nat.le_of_ble_eq_true rfl) (ls' := [(5, .int v20), (0, .ref x0), (1, .int x1), (2, .int x2), (3, .int x3), (4, .int x4)]) rfl ?_
      refine j_iload (pc := 93) C dX3_bestLane_93 rfl ?_
      refine j_iconst (pc := 95) C dX3_bestLane_95 (v := -1) rfl ?_
      refine j_icmp_eq (pc := 96) C dX3_bestLane_96 (tgt := 114) (by decide) (fun hc23 => ?_) (fun hc23 => ?_)
      · refine j_loc [1, 2, 3, 4, 5, 0] rfl ?_
        exact t_X3_bestLane_b114 C h28 x0 x1 x2 x3 x4 v20 M19
      · refine j_iload_n (pc := 99) C dX3_bestLane_99 rfl ?_
        refine j_iconst (pc := 100) C dX3_bestLane_100 (v := -1) rfl ?_
        refine j_icmp_eq (pc := 101) C dX3_bestLane_101 (tgt := 110) (by decide) (fun hc22 => ?_) (fun hc22 => ?_)
        · refine j_loc [1, 2, 3, 4, 5, 0] rfl ?_
          exact t_X3_bestLane_b110 C h28 x0 x1 x2 x3 x4 v20 M19
        · refine j_iload (pc := 104) C dX3_bestLane_104 rfl ?_
          refine j_iload_n (pc := 106) C dX3_bestLane_106 rfl ?_
          refine j_icmp_ge (pc := 107) C dX3_bestLane_107 (tgt := 114) (by decide) (fun hc21 => ?_) (fun hc21 => ?_)
          · refine j_loc [1, 2, 3, 4, 5, 0] rfl ?_
            exact t_X3_bestLane_b114 C h28 x0 x1 x2 x3 x4 v20 M19
          · refine j_loc [1, 2, 3, 4, 5, 0] rfl ?_
            exact t_X3_bestLane_b110 C h28 x0 x1 x2 x3 x4 v20 M19
theorem t_X3_bestLane_l28 {z : Sh9} {N : Nv9} {X : Cx9} {out : Out9 × Mem9} (C : OK9 z N X out 7 (co9 out.1) cX3_bestLane RX3 8 1 [])  : ∀ (n : Nat) (x0 : Nat) (x1 : Int32) (x2 : Int32) (x3 : Int32) (x4 : Int32) (M : Mem9), J9 z N X out 7 28 [(0, .ref x0), (1, .int x1), (2, .int x2), (3, .int x3), (4, .int x4)] [] M (0, 0) (fx9 (fun _ _ _ _ _ _ => none) (f_X3_bestLane_b28 z ) n x0 x1 x2 x3 x4 M) := by
  intro n
  induction n with
  | zero => intro x0 x1 x2 x3 x4 M; exact j_none
  | succ n ih => intro x0 x1 x2 x3 x4 M; exact t_X3_bestLane_b28 C  ih x0 x1 x2 x3 x4 M
def f_X3_bestLane_b13 (z : Sh9)  (x0 : Nat) (x1 : Int32) (s0 : Int32) (s1 : Nat) (M : Mem9) : Re9 :=
  (bi9 (iv9 z s1 3 (f_X3_refused z s1 s0 M)) fun v5 M4 => (if v5 = 0 then (fx9 (fun _ _ _ _ _ _ => none) (f_X3_bestLane_b28 z ) FU9 x0 x1 (-1 : Int32) (0 : Int32) (0 : Int32) M4) else (ri9 (0 : Int32) M4)))
set_option maxRecDepth 20000 in
set_option maxHeartbeats 4000000 in
theorem t_X3_bestLane_b13 {z : Sh9} {N : Nv9} {X : Cx9} {out : Out9 × Mem9} (C : OK9 z N X out 7 (co9 out.1) cX3_bestLane RX3 8 1 [])  (x0 : Nat) (x1 : Int32) (s0 : Int32) (s1 : Nat) (M : Mem9) : J9 z N X out 7 13 [(0, .ref x0), (1, .int x1)] [.int s0, .ref s1] M (0, 0) (f_X3_bestLane_b13 z  x0 x1 s0 s1 M) := by
  refine j_callVi (pc := 13) C rfl dX3_bestLane_13 lv_X3_130 rfl (Nat.le_of_ble_eq_true rfl) (Nat.le_of_ble_eq_true rfl) (by decide) (Or.inl rfl) ⟨Nat.le_refl _, Nat.le_refl _⟩ (fun l hl o ho => sp_X3_refused hl ho) (fun v5 M4 => ?_)
  refine j_if_eq (pc := 16) C dX3_bestLane_16 (tgt := 21) (by decide) (fun hc6 => ?_) (fun hc6 => ?_)
  · refine j_iconst (pc := 21) C dX3_bestLane_21 (v := -1) rfl ?_
    refine j_istore_n (pc := 22) C dX3_bestLane_22 (Nat.le_of_ble_eq_true rfl) (ls' := [(2, .int (-1 : Int32)), (0, .ref x0), (1, .int x1)]) rfl ?_
    refine j_iconst (pc := 23) C dX3_bestLane_23 (v := 0) rfl ?_
    refine j_istore_n (pc := 24) C dX3_bestLane_24 (Nat.le_of_ble_eq_true rfl) (ls' := [(3, .int (0 : Int32)), (2, .int (-1 : Int32)), (0, .ref x0), (1, .int x1)]) rfl ?_
    refine j_iconst (pc := 25) C dX3_bestLane_25 (v := 0) rfl ?_
    refine j_istore (pc := 26) C dX3_bestLane_26 (Nat.le_of_ble_eq_true rfl) (ls' := [(4, .int (0 : Int32)), (3, .int (0 : Int32)), (2, .int (-1 : Int32)), (0, .ref x0), (1, .int x1)]) rfl ?_
    refine j_loc [3, 4, 2, 1, 0] rfl ?_
    exact t_X3_bestLane_l28 C  FU9 x0 x1 (-1 : Int32) (0 : Int32) (0 : Int32) M4
  · refine j_iconst (pc := 19) C dX3_bestLane_19 (v := 0) rfl ?_
    exact j_ireturn (pc := 20) C rfl dX3_bestLane_20 ⟨Nat.zero_le _, Nat.zero_le _⟩
def f_X3_bestLane (z : Sh9) (a0 : Nat) (a1 : Int32) (M : Mem9) : Re9 :=
  (bi9 (f_X3_isLength z a1 M) fun v2 M1 => (if v2 = 0 then (f_X3_bestLane_b13 z  a0 a1 (1 : Int32) a0 M1) else (f_X3_bestLane_b13 z  a0 a1 (0 : Int32) a0 M1)))
set_option maxRecDepth 20000 in
set_option maxHeartbeats 4000000 in
theorem t_X3_bestLane {z : Sh9} {N : Nv9} {X : Cx9} {out : Out9 × Mem9} (C : OK9 z N X out 7 (co9 out.1) cX3_bestLane RX3 8 1 []) (a0 : Nat) (a1 : Int32) (M : Mem9) : J9 z N X out 7 0 [(0, .ref a0), (1, .int a1)] [] M (0, 0) (f_X3_bestLane z a0 a1 M) := by
  refine j_aload_n (pc := 0) C dX3_bestLane_0 rfl ?_
  refine j_iload_n (pc := 1) C dX3_bestLane_1 rfl ?_
  refine j_callSi (pc := 2) C rfl dX3_bestLane_2 ls_X3_114 rfl (Nat.le_of_ble_eq_true rfl) (Nat.le_of_ble_eq_true rfl) (by decide) (Or.inl rfl) ⟨Nat.le_refl _, Nat.le_refl _⟩ (fun l hl o ho => sp_X3_isLength hl ho) (fun v2 M1 => ?_)
  refine j_if_eq (pc := 5) C dX3_bestLane_5 (tgt := 12) (by decide) (fun hc3 => ?_) (fun hc3 => ?_)
  · refine j_iconst (pc := 12) C dX3_bestLane_12 (v := 1) rfl ?_
    exact t_X3_bestLane_b13 C  a0 a1 (1 : Int32) a0 M1
  · refine j_iconst (pc := 8) C dX3_bestLane_8 (v := 0) rfl ?_
    refine j_goto (pc := 9) C dX3_bestLane_9 (tgt := 13) (by decide) ?_
    exact t_X3_bestLane_b13 C  a0 a1 (0 : Int32) a0 M1
theorem sp_X3_bestLane {l : Launch} {z : Sh9} {N : Nv9} {a0 : Nat} {a1 : Int32} {M : Mem9} {o : Out9 × Mem9} (hl : l.stackTraces = false) (h : f_X3_bestLane z a0 a1 M = some o) : Sp9 l z N yX3_bestLane (Cond.code yX3_bestLane cX3_bestLane 7 (some .int)) 8 [.ref a0, .int a1] M (co9 o.1) o :=
  sp9_of (rk := 1) (own := RX3) (by decide +kernel) rfl (Or.inr (Or.inl ⟨rfl, rfl⟩)) hl (Nat.le_of_ble_eq_true rfl) (fun X C => t_X3_bestLane C a0 a1 M) h
def f_X3_clearText (z : Sh9) (a0 : Nat) (M : Mem9) : Re9 :=
  ((pf9 z M a0 3 0 (0 : Int32)).bind fun M1 => ((gf9 z M1 a0 3 2).bind fun v2 => ((pf9 z M1 a0 3 2 (0 : Int32)).bind fun M3 => (ri9 v2 M3))))
set_option maxRecDepth 20000 in
set_option maxHeartbeats 4000000 in
theorem t_X3_clearText {z : Sh9} {N : Nv9} {X : Cx9} {out : Out9 × Mem9} (C : OK9 z N X out 2 (co9 out.1) cX3_clearText RX3 0 1 []) (a0 : Nat) (M : Mem9) : J9 z N X out 2 0 [(0, .ref a0)] [] M (0, 0) (f_X3_clearText z a0 M) := by
  refine j_aload_n (pc := 0) C dX3_clearText_0 rfl ?_
  refine j_iconst (pc := 1) C dX3_clearText_1 (v := 0) rfl ?_
  refine j_putI (pc := 2) C dX3_clearText_2 fl_X3_36 fi_X3_0 rfl rfl (fun M1 => ?_)
  refine j_aload_n (pc := 5) C dX3_clearText_5 rfl ?_
  refine j_getI (pc := 6) C dX3_clearText_6 fl_X3_127 fi_X3_2 (fun v2 => ?_)
  refine j_istore_n (pc := 9) C dX3_clearText_9 (Nat.le_of_ble_eq_true rfl) (ls' := [(1, .int v2), (0, .ref a0)]) rfl ?_
  refine j_aload_n (pc := 10) C dX3_clearText_10 rfl ?_
  refine j_iconst (pc := 11) C dX3_clearText_11 (v := 0) rfl ?_
  refine j_putI (pc := 12) C dX3_clearText_12 fl_X3_127 fi_X3_2 rfl rfl (fun M3 => ?_)
  refine j_iload_n (pc := 15) C dX3_clearText_15 rfl ?_
  exact j_ireturn (pc := 16) C rfl dX3_clearText_16 ⟨Nat.zero_le _, Nat.zero_le _⟩
theorem sp_X3_clearText {l : Launch} {z : Sh9} {N : Nv9} {a0 : Nat} {M : Mem9} {o : Out9 × Mem9} (hl : l.stackTraces = false) (h : f_X3_clearText z a0 M = some o) : Sp9 l z N yX3_clearText (Cond.code yX3_clearText cX3_clearText 2 (some .int)) 0 [.ref a0] M (co9 o.1) o :=
  sp9_of (rk := 1) (own := RX3) (by decide +kernel) rfl (Or.inr (Or.inl ⟨rfl, rfl⟩)) hl (Nat.le_of_ble_eq_true rfl) (fun X C => t_X3_clearText C a0 M) h
def f_X3_runOn_b11 (z : Sh9) (r11 : Nat → Nat → Int32 → Int32 → Int32 → Mem9 → Re9) (x0 : Nat) (x1 : Nat) (x2 : Int32) (x3 : Int32) (x4 : Int32) (M : Mem9) : Re9 :=
  (if x2 ≤ x4 then ((ld9 z M 10 x1 (3 : Int32)).bind fun v4 => ((ld9 z M 10 x1 (4 : Int32)).bind fun v5 => (ri9 ((v4 + v5) - x3) M))) else (bv9 (iv9 z x0 3 (f_X3_tickOn z x0 x1 M)) fun M6 => (r11 x0 x1 x2 x3 (x4 + (1 : Int32)) M6)))
set_option maxRecDepth 20000 in
set_option maxHeartbeats 4000000 in
theorem t_X3_runOn_b11 {z : Sh9} {N : Nv9} {X : Cx9} {out : Out9 × Mem9} (C : OK9 z N X out 5 (co9 out.1) cX3_runOn RX3 7 1 []) {r11 : Nat → Nat → Int32 → Int32 → Int32 → Mem9 → Re9} (h11 : ∀ (x0 : Nat) (x1 : Nat) (x2 : Int32) (x3 : Int32) (x4 : Int32) (M : Mem9), J9 z N X out 5 11 [(0, .ref x0), (1, .ref x1), (2, .int x2), (3, .int x3), (4, .int x4)] [] M (0, 0) (r11 x0 x1 x2 x3 x4 M)) (x0 : Nat) (x1 : Nat) (x2 : Int32) (x3 : Int32) (x4 : Int32) (M : Mem9) : J9 z N X out 5 11 [(0, .ref x0), (1, .ref x1), (2, .int x2), (3, .int x3), (4, .int x4)] [] M (0, 0) (f_X3_runOn_b11 z r11 x0 x1 x2 x3 x4 M) := by
  refine j_iload (pc := 11) C dX3_runOn_11 rfl ?_
  refine j_iload_n (pc := 13) C dX3_runOn_13 rfl ?_
  refine j_icmp_ge (pc := 14) C dX3_runOn_14 (tgt := 28) (by decide) (fun hc7 => ?_) (fun hc7 => ?_)
  · refine j_aload_n (pc := 28) C dX3_runOn_28 rfl ?_
    refine j_iconst (pc := 29) C dX3_runOn_29 (v := 3) rfl ?_
    refine j_iaload (pc := 30) C dX3_runOn_30 (fun v4 => ?_)
    refine j_aload_n (pc := 31) C dX3_runOn_31 rfl ?_
    refine j_iconst (pc := 32) C dX3_runOn_32 (v := 4) rfl ?_
    refine j_iaload (pc := 33) C dX3_runOn_33 (fun v5 => ?_)
    refine j_iadd (pc := 34) C dX3_runOn_34 ?_
    refine j_iload_n (pc := 35) C dX3_runOn_35 rfl ?_
    refine j_isub (pc := 36) C dX3_runOn_36 ?_
    exact j_ireturn (pc := 37) C rfl dX3_runOn_37 ⟨Nat.zero_le _, Nat.zero_le _⟩
  · refine j_aload_n (pc := 17) C dX3_runOn_17 rfl ?_
    refine j_aload_n (pc := 18) C dX3_runOn_18 rfl ?_
    refine j_callVv (pc := 19) C rfl dX3_runOn_19 lv_X3_107 rfl (Nat.le_of_ble_eq_true rfl) (Nat.le_of_ble_eq_true rfl) (by decide) (Or.inl rfl) ⟨Nat.le_refl _, Nat.le_refl _⟩ (fun l hl o ho => sp_X3_tickOn hl ho) (fun M6 => ?_)
    refine j_iinc (pc := 22) C dX3_runOn_22 rfl (v := (x4 + (1 : Int32))) rfl (Nat.le_of_ble_eq_true rfl) (ls' := [(4, .int (x4 + (1 : Int32))), (0, .ref x0), (1, .ref x1), (2, .int x2), (3, .int x3)]) rfl ?_
    refine j_goto (pc := 25) C dX3_runOn_25 (tgt := 11) (by decide) ?_
    refine j_loc [1, 2, 3, 4, 0] rfl ?_
    exact h11 x0 x1 x2 x3 (x4 + (1 : Int32)) M6
theorem t_X3_runOn_l11 {z : Sh9} {N : Nv9} {X : Cx9} {out : Out9 × Mem9} (C : OK9 z N X out 5 (co9 out.1) cX3_runOn RX3 7 1 [])  : ∀ (n : Nat) (x0 : Nat) (x1 : Nat) (x2 : Int32) (x3 : Int32) (x4 : Int32) (M : Mem9), J9 z N X out 5 11 [(0, .ref x0), (1, .ref x1), (2, .int x2), (3, .int x3), (4, .int x4)] [] M (0, 0) (fx9 (fun _ _ _ _ _ _ => none) (f_X3_runOn_b11 z ) n x0 x1 x2 x3 x4 M) := by
  intro n
  induction n with
  | zero => intro x0 x1 x2 x3 x4 M; exact j_none
  | succ n ih => intro x0 x1 x2 x3 x4 M; exact t_X3_runOn_b11 C  ih x0 x1 x2 x3 x4 M
def f_X3_runOn (z : Sh9) (a0 : Nat) (a1 : Nat) (a2 : Int32) (M : Mem9) : Re9 :=
  ((ld9 z M 10 a1 (3 : Int32)).bind fun v1 => ((ld9 z M 10 a1 (4 : Int32)).bind fun v2 => (nm9 (v1 + v2) fun (y3 : Int32) => (fx9 (fun _ _ _ _ _ _ => none) (f_X3_runOn_b11 z ) FU9 a0 a1 a2 y3 (0 : Int32) M))))
set_option maxRecDepth 20000 in
set_option maxHeartbeats 4000000 in
theorem t_X3_runOn {z : Sh9} {N : Nv9} {X : Cx9} {out : Out9 × Mem9} (C : OK9 z N X out 5 (co9 out.1) cX3_runOn RX3 7 1 []) (a0 : Nat) (a1 : Nat) (a2 : Int32) (M : Mem9) : J9 z N X out 5 0 [(0, .ref a0), (1, .ref a1), (2, .int a2)] [] M (0, 0) (f_X3_runOn z a0 a1 a2 M) := by
  refine j_aload_n (pc := 0) C dX3_runOn_0 rfl ?_
  refine j_iconst (pc := 1) C dX3_runOn_1 (v := 3) rfl ?_
  refine j_iaload (pc := 2) C dX3_runOn_2 (fun v1 => ?_)
  refine j_aload_n (pc := 3) C dX3_runOn_3 rfl ?_
  refine j_iconst (pc := 4) C dX3_runOn_4 (v := 4) rfl ?_
  refine j_iaload (pc := 5) C dX3_runOn_5 (fun v2 => ?_)
  refine j_iadd (pc := 6) C dX3_runOn_6 ?_
  refine j_nm (st' := fun x9 : Int32 => .int x9 :: []) rfl (fun y3 => ?_)
  refine j_istore_n (pc := 7) C dX3_runOn_7 (Nat.le_of_ble_eq_true rfl) (ls' := [(3, .int y3), (0, .ref a0), (1, .ref a1), (2, .int a2)]) rfl ?_
  refine j_iconst (pc := 8) C dX3_runOn_8 (v := 0) rfl ?_
  refine j_istore (pc := 9) C dX3_runOn_9 (Nat.le_of_ble_eq_true rfl) (ls' := [(4, .int (0 : Int32)), (3, .int y3), (0, .ref a0), (1, .ref a1), (2, .int a2)]) rfl ?_
  refine j_loc [2, 3, 4, 1, 0] rfl ?_
  exact t_X3_runOn_l11 C  FU9 a0 a1 a2 y3 (0 : Int32) M
theorem sp_X3_runOn {l : Launch} {z : Sh9} {N : Nv9} {a0 : Nat} {a1 : Nat} {a2 : Int32} {M : Mem9} {o : Out9 × Mem9} (hl : l.stackTraces = false) (h : f_X3_runOn z a0 a1 a2 M = some o) : Sp9 l z N yX3_runOn (Cond.code yX3_runOn cX3_runOn 5 (some .int)) 7 [.ref a0, .ref a1, .int a2] M (co9 o.1) o :=
  sp9_of (rk := 1) (own := RX3) (by decide +kernel) rfl (Or.inr (Or.inl ⟨rfl, rfl⟩)) hl (Nat.le_of_ble_eq_true rfl) (fun X C => t_X3_runOn C a0 a1 a2 M) h
def f_X3_coming_b30 (z : Sh9)  (x0 : Nat) (x1 : Int32) (x2 : Int32) (s0 : Int32) (s1 : Nat) (M : Mem9) : Re9 :=
  (bi9 (iv9 z s1 3 (f_X3_refused z s1 s0 M)) fun v8 M7 => (if v8 = 0 then ((rf9 z x0 3 2).bind fun v9 => ((rf9 z x0 3 3).bind fun v10 => (bv9 (f_X3_copyState z v9 (0 : Int32) v10 (0 : Int32) M7) fun M11 => ((pf9 z M11 x0 3 10 (0 : Int32)).bind fun M12 => ((rf9 z x0 3 3).bind fun v13 => (bi9 (iv9 z x0 3 (f_X3_runOn z x0 v13 x1 M12)) fun v15 M14 => (if x2 = (0 : Int32) then ((rf9 z x0 3 3).bind fun v16 => ((ld9 z M14 10 v16 (3 : Int32)).bind fun v17 => ((rf9 z x0 3 2).bind fun v18 => ((ld9 z M14 10 v18 (3 : Int32)).bind fun v19 => (ri9 (v17 - v19) M14))))) else (if x2 = (1 : Int32) then ((rf9 z x0 3 3).bind fun v21 => ((ld9 z M14 10 v21 (4 : Int32)).bind fun v22 => ((rf9 z x0 3 2).bind fun v23 => ((ld9 z M14 10 v23 (4 : Int32)).bind fun v24 => (ri9 (v22 - v24) M14))))) else (if x2 = (2 : Int32) then ((rf9 z x0 3 3).bind fun v26 => ((ld9 z M14 10 v26 (5 : Int32)).bind fun v27 => ((rf9 z x0 3 2).bind fun v28 => ((ld9 z M14 10 v28 (5 : Int32)).bind fun v29 => (ri9 (v27 - v29) M14))))) else (if x2 = (3 : Int32) then ((rf9 z x0 3 3).bind fun v31 => (bi9 (f_X3_sum z v31 (0 : Int32) M14) fun v33 M32 => (ri9 v33 M32))) else ((gf9 z M14 x0 3 10).bind fun v35 => (ri9 v35 M14)))))))))))) else (ri9 (0 : Int32) M7)))
set_option maxRecDepth 20000 in
set_option maxHeartbeats 4000000 in
theorem t_X3_coming_b30 {z : Sh9} {N : Nv9} {X : Cx9} {out : Out9 × Mem9} (C : OK9 z N X out 3 (co9 out.1) cX3_coming RX3 8 1 [])  (x0 : Nat) (x1 : Int32) (x2 : Int32) (s0 : Int32) (s1 : Nat) (M : Mem9) : J9 z N X out 3 30 [(0, .ref x0), (1, .int x1), (2, .int x2)] [.int s0, .ref s1] M (0, 0) (f_X3_coming_b30 z  x0 x1 x2 s0 s1 M) := by
  refine j_callVi (pc := 30) C rfl dX3_coming_30 lv_X3_130 rfl (Nat.le_of_ble_eq_true rfl) (Nat.le_of_ble_eq_true rfl) (by decide) (Or.inl rfl) ⟨Nat.le_refl _, Nat.le_refl _⟩ (fun l hl o ho => sp_X3_refused hl ho) (fun v8 M7 => ?_)
  refine j_if_eq (pc := 33) C dX3_coming_33 (tgt := 38) (by decide) (fun hc36 => ?_) (fun hc36 => ?_)
  · refine j_aload_n (pc := 38) C dX3_coming_38 rfl ?_
    refine j_getR (pc := 39) C dX3_coming_39 fl_X3_13 fr_X3_3 (fun v9 => ?_)
    refine j_iconst (pc := 42) C dX3_coming_42 (v := 0) rfl ?_
    refine j_aload_n (pc := 43) C dX3_coming_43 rfl ?_
    refine j_getR (pc := 44) C dX3_coming_44 fl_X3_16 fr_X3_4 (fun v10 => ?_)
    refine j_iconst (pc := 47) C dX3_coming_47 (v := 0) rfl ?_
    refine j_callSv (pc := 48) C rfl dX3_coming_48 ls_X3_187 rfl (Nat.le_of_ble_eq_true rfl) (Nat.le_of_ble_eq_true rfl) (by decide) (Or.inl rfl) ⟨Nat.le_refl _, Nat.le_refl _⟩ (fun l hl o ho => sp_X3_copyState hl ho) (fun M11 => ?_)
    refine j_aload_n (pc := 51) C dX3_coming_51 rfl ?_
    refine j_iconst (pc := 52) C dX3_coming_52 (v := 0) rfl ?_
    refine j_putI (pc := 53) C dX3_coming_53 fl_X3_98 fi_X3_10 rfl rfl (fun M12 => ?_)
    refine j_aload_n (pc := 56) C dX3_coming_56 rfl ?_
    refine j_aload_n (pc := 57) C dX3_coming_57 rfl ?_
    refine j_getR (pc := 58) C dX3_coming_58 fl_X3_16 fr_X3_4 (fun v13 => ?_)
    refine j_iload_n (pc := 61) C dX3_coming_61 rfl ?_
    refine j_callVi (pc := 62) C rfl dX3_coming_62 lv_X3_177 rfl (Nat.le_of_ble_eq_true rfl) (Nat.le_of_ble_eq_true rfl) (by decide) (Or.inl rfl) ⟨Nat.le_refl _, Nat.le_refl _⟩ (fun l hl o ho => sp_X3_runOn hl ho) (fun v15 M14 => ?_)
    refine j_pop (pc := 65) C dX3_coming_65 rfl ?_
    refine j_iload_n (pc := 66) C dX3_coming_66 rfl ?_
    refine j_ite (fun hc20 => ?_) (fun hc20 => ?_)
    · refine j_tsIn (pc := 67) C (0) dX3_coming_67 (by rw [hc20]; rfl) (by decide) (off := 29) rfl (tgt := 96) (by decide) ?_
      refine j_aload_n (pc := 96) C dX3_coming_96 rfl ?_
      refine j_getR (pc := 97) C dX3_coming_97 fl_X3_16 fr_X3_4 (fun v16 => ?_)
      refine j_iconst (pc := 100) C dX3_coming_100 (v := 3) rfl ?_
      refine j_iaload (pc := 101) C dX3_coming_101 (fun v17 => ?_)
      refine j_aload_n (pc := 102) C dX3_coming_102 rfl ?_
      refine j_getR (pc := 103) C dX3_coming_103 fl_X3_13 fr_X3_3 (fun v18 => ?_)
      refine j_iconst (pc := 106) C dX3_coming_106 (v := 3) rfl ?_
      refine j_iaload (pc := 107) C dX3_coming_107 (fun v19 => ?_)
      refine j_isub (pc := 108) C dX3_coming_108 ?_
      exact j_ireturn (pc := 109) C rfl dX3_coming_109 ⟨Nat.zero_le _, Nat.zero_le _⟩
    · refine j_ite (fun hc25 => ?_) (fun hc25 => ?_)
      · refine j_tsIn (pc := 67) C (1) dX3_coming_67 (by rw [hc25]; rfl) (by decide) (off := 43) rfl (tgt := 110) (by decide) ?_
        refine j_aload_n (pc := 110) C dX3_coming_110 rfl ?_
        refine j_getR (pc := 111) C dX3_coming_111 fl_X3_16 fr_X3_4 (fun v21 => ?_)
        refine j_iconst (pc := 114) C dX3_coming_114 (v := 4) rfl ?_
        refine j_iaload (pc := 115) C dX3_coming_115 (fun v22 => ?_)
        refine j_aload_n (pc := 116) C dX3_coming_116 rfl ?_
        refine j_getR (pc := 117) C dX3_coming_117 fl_X3_13 fr_X3_3 (fun v23 => ?_)
        refine j_iconst (pc := 120) C dX3_coming_120 (v := 4) rfl ?_
        refine j_iaload (pc := 121) C dX3_coming_121 (fun v24 => ?_)
        refine j_isub (pc := 122) C dX3_coming_122 ?_
        exact j_ireturn (pc := 123) C rfl dX3_coming_123 ⟨Nat.zero_le _, Nat.zero_le _⟩
      · refine j_ite (fun hc30 => ?_) (fun hc30 => ?_)
        · refine j_tsIn (pc := 67) C (2) dX3_coming_67 (by rw [hc30]; rfl) (by decide) (off := 57) rfl (tgt := 124) (by decide) ?_
          refine j_aload_n (pc := 124) C dX3_coming_124 rfl ?_
          refine j_getR (pc := 125) C dX3_coming_125 fl_X3_16 fr_X3_4 (fun v26 => ?_)
          refine j_iconst (pc := 128) C dX3_coming_128 (v := 5) rfl ?_
          refine j_iaload (pc := 129) C dX3_coming_129 (fun v27 => ?_)
          refine j_aload_n (pc := 130) C dX3_coming_130 rfl ?_
          refine j_getR (pc := 131) C dX3_coming_131 fl_X3_13 fr_X3_3 (fun v28 => ?_)
          refine j_iconst (pc := 134) C dX3_coming_134 (v := 5) rfl ?_
          refine j_iaload (pc := 135) C dX3_coming_135 (fun v29 => ?_)
          refine j_isub (pc := 136) C dX3_coming_136 ?_
          exact j_ireturn (pc := 137) C rfl dX3_coming_137 ⟨Nat.zero_le _, Nat.zero_le _⟩
        · refine j_ite (fun hc34 => ?_) (fun hc34 => ?_)
          · refine j_tsIn (pc := 67) C (3) dX3_coming_67 (by rw [hc34]; rfl) (by decide) (off := 71) rfl (tgt := 138) (by decide) ?_
            refine j_aload_n (pc := 138) C dX3_coming_138 rfl ?_
            refine j_getR (pc := 139) C dX3_coming_139 fl_X3_16 fr_X3_4 (fun v31 => ?_)
            refine j_iconst (pc := 142) C dX3_coming_142 (v := 0) rfl ?_
            refine j_callSi (pc := 143) C rfl dX3_coming_143 ls_X3_118 rfl (Nat.le_of_ble_eq_true rfl) (Nat.le_of_ble_eq_true rfl) (by decide) (Or.inl rfl) ⟨Nat.le_refl _, Nat.le_refl _⟩ (fun l hl o ho => sp_X3_sum hl ho) (fun v33 M32 => ?_)
            exact j_ireturn (pc := 146) C rfl dX3_coming_146 ⟨Nat.zero_le _, Nat.zero_le _⟩
          · refine j_tsOut (pc := 67) C dX3_coming_67 (by have qhc20 := ne9 (k := 0) hc20 rfl; have qhc25 := ne9 (k := 1) hc25 rfl; have qhc30 := ne9 (k := 2) hc30 rfl; have qhc34 := ne9 (k := 3) hc34 rfl; omega) (tgt := 147) (by decide) ?_
            refine j_aload_n (pc := 147) C dX3_coming_147 rfl ?_
            refine j_getI (pc := 148) C dX3_coming_148 fl_X3_98 fi_X3_10 (fun v35 => ?_)
            exact j_ireturn (pc := 151) C rfl dX3_coming_151 ⟨Nat.zero_le _, Nat.zero_le _⟩
  · refine j_iconst (pc := 36) C dX3_coming_36 (v := 0) rfl ?_
    exact j_ireturn (pc := 37) C rfl dX3_coming_37 ⟨Nat.zero_le _, Nat.zero_le _⟩
def f_X3_coming_b29 (z : Sh9)  (x0 : Nat) (x1 : Int32) (x2 : Int32) (s0 : Nat) (M : Mem9) : Re9 :=
  (f_X3_coming_b30 z  x0 x1 x2 (1 : Int32) s0 M)
set_option maxRecDepth 20000 in
set_option maxHeartbeats 4000000 in
theorem t_X3_coming_b29 {z : Sh9} {N : Nv9} {X : Cx9} {out : Out9 × Mem9} (C : OK9 z N X out 3 (co9 out.1) cX3_coming RX3 8 1 [])  (x0 : Nat) (x1 : Int32) (x2 : Int32) (s0 : Nat) (M : Mem9) : J9 z N X out 3 29 [(0, .ref x0), (1, .int x1), (2, .int x2)] [.ref s0] M (0, 0) (f_X3_coming_b29 z  x0 x1 x2 s0 M) := by
  refine j_iconst (pc := 29) C dX3_coming_29 (v := 1) rfl ?_
  exact t_X3_coming_b30 C  x0 x1 x2 (1 : Int32) s0 M
def f_X3_coming (z : Sh9) (a0 : Nat) (a1 : Int32) (a2 : Int32) (M : Mem9) : Re9 :=
  (bi9 (f_X3_in z (Int32.toInt64 a1) (1 : Int64) (400 : Int64) M) fun v2 M1 => (if v2 = 0 then (f_X3_coming_b29 z  a0 a1 a2 a0 M1) else (bi9 (f_X3_in z (Int32.toInt64 a2) (0 : Int64) (4 : Int64) M1) fun v4 M3 => (if v4 = 0 then (f_X3_coming_b29 z  a0 a1 a2 a0 M3) else (f_X3_coming_b30 z  a0 a1 a2 (0 : Int32) a0 M3)))))
set_option maxRecDepth 20000 in
set_option maxHeartbeats 4000000 in
theorem t_X3_coming {z : Sh9} {N : Nv9} {X : Cx9} {out : Out9 × Mem9} (C : OK9 z N X out 3 (co9 out.1) cX3_coming RX3 8 1 []) (a0 : Nat) (a1 : Int32) (a2 : Int32) (M : Mem9) : J9 z N X out 3 0 [(0, .ref a0), (1, .int a1), (2, .int a2)] [] M (0, 0) (f_X3_coming z a0 a1 a2 M) := by
  refine j_aload_n (pc := 0) C dX3_coming_0 rfl ?_
  refine j_iload_n (pc := 1) C dX3_coming_1 rfl ?_
  refine j_i2l (pc := 2) C dX3_coming_2 ?_
  refine j_lconst (pc := 3) C dX3_coming_3 (v := 1) rfl ?_
  refine j_ldc2 (pc := 4) C dX3_coming_4 (v := 400) w9_1003 ?_
  refine j_callSi (pc := 7) C rfl dX3_coming_7 ls_X3_40 rfl (Nat.le_of_ble_eq_true rfl) (Nat.le_of_ble_eq_true rfl) (by decide) (Or.inl rfl) ⟨Nat.le_refl _, Nat.le_refl _⟩ (fun l hl o ho => sp_X3_in hl ho) (fun v2 M1 => ?_)
  refine j_if_eq (pc := 10) C dX3_coming_10 (tgt := 29) (by decide) (fun hc6 => ?_) (fun hc6 => ?_)
  · exact t_X3_coming_b29 C  a0 a1 a2 a0 M1
  · refine j_iload_n (pc := 13) C dX3_coming_13 rfl ?_
    refine j_i2l (pc := 14) C dX3_coming_14 ?_
    refine j_lconst (pc := 15) C dX3_coming_15 (v := 0) rfl ?_
    refine j_ldc2 (pc := 16) C dX3_coming_16 (v := 4) w9_934 ?_
    refine j_callSi (pc := 19) C rfl dX3_coming_19 ls_X3_40 rfl (Nat.le_of_ble_eq_true rfl) (Nat.le_of_ble_eq_true rfl) (by decide) (Or.inl rfl) ⟨Nat.le_refl _, Nat.le_refl _⟩ (fun l hl o ho => sp_X3_in hl ho) (fun v4 M3 => ?_)
    refine j_if_eq (pc := 22) C dX3_coming_22 (tgt := 29) (by decide) (fun hc5 => ?_) (fun hc5 => ?_)
    · exact t_X3_coming_b29 C  a0 a1 a2 a0 M3
    · refine j_iconst (pc := 25) C dX3_coming_25 (v := 0) rfl ?_
      refine j_goto (pc := 26) C dX3_coming_26 (tgt := 30) (by decide) ?_
      exact t_X3_coming_b30 C  a0 a1 a2 (0 : Int32) a0 M3
theorem sp_X3_coming {l : Launch} {z : Sh9} {N : Nv9} {a0 : Nat} {a1 : Int32} {a2 : Int32} {M : Mem9} {o : Out9 × Mem9} (hl : l.stackTraces = false) (h : f_X3_coming z a0 a1 a2 M = some o) : Sp9 l z N yX3_coming (Cond.code yX3_coming cX3_coming 3 (some .int)) 8 [.ref a0, .int a1, .int a2] M (co9 o.1) o :=
  sp9_of (rk := 1) (own := RX3) (by decide +kernel) rfl (Or.inr (Or.inl ⟨rfl, rfl⟩)) hl (Nat.le_of_ble_eq_true rfl) (fun X C => t_X3_coming C a0 a1 a2 M) h
def f_X3_emptyIn_b40 (z : Sh9) (r40 : Nat → Int32 → Int32 → Mem9 → Re9) (x0 : Nat) (x1 : Int32) (x2 : Int32) (M : Mem9) : Re9 :=
  (if (400 : Int32) < x2 then (ri9 (-1 : Int32) M) else ((rf9 z x0 3 3).bind fun v11 => (bi9 (f_X3_of z v11 x1 (0 : Int32) M) fun v13 M12 => (if v13 = 0 then (ri9 x2 M12) else ((rf9 z x0 3 3).bind fun v14 => (bv9 (iv9 z x0 3 (f_X3_tickOn z x0 v14 M12)) fun M15 => (r40 x0 x1 (x2 + (1 : Int32)) M15)))))))
set_option maxRecDepth 20000 in
set_option maxHeartbeats 4000000 in
theorem t_X3_emptyIn_b40 {z : Sh9} {N : Nv9} {X : Cx9} {out : Out9 × Mem9} (C : OK9 z N X out 3 (co9 out.1) cX3_emptyIn RX3 7 1 []) {r40 : Nat → Int32 → Int32 → Mem9 → Re9} (h40 : ∀ (x0 : Nat) (x1 : Int32) (x2 : Int32) (M : Mem9), J9 z N X out 3 40 [(0, .ref x0), (1, .int x1), (2, .int x2)] [] M (0, 0) (r40 x0 x1 x2 M)) (x0 : Nat) (x1 : Int32) (x2 : Int32) (M : Mem9) : J9 z N X out 3 40 [(0, .ref x0), (1, .int x1), (2, .int x2)] [] M (0, 0) (f_X3_emptyIn_b40 z r40 x0 x1 x2 M) := by
  refine j_iload_n (pc := 40) C dX3_emptyIn_40 rfl ?_
  refine j_sipush (pc := 41) C dX3_emptyIn_41 (v := 400) rfl ?_
  refine j_icmp_gt (pc := 44) C dX3_emptyIn_44 (tgt := 75) (by decide) (fun hc17 => ?_) (fun hc17 => ?_)
  · refine j_iconst (pc := 75) C dX3_emptyIn_75 (v := -1) rfl ?_
    exact j_ireturn (pc := 76) C rfl dX3_emptyIn_76 ⟨Nat.zero_le _, Nat.zero_le _⟩
  · refine j_aload_n (pc := 47) C dX3_emptyIn_47 rfl ?_
    refine j_getR (pc := 48) C dX3_emptyIn_48 fl_X3_16 fr_X3_4 (fun v11 => ?_)
    refine j_iload_n (pc := 51) C dX3_emptyIn_51 rfl ?_
    refine j_iconst (pc := 52) C dX3_emptyIn_52 (v := 0) rfl ?_
    refine j_callSi (pc := 53) C rfl dX3_emptyIn_53 ls_X3_48 rfl (Nat.le_of_ble_eq_true rfl) (Nat.le_of_ble_eq_true rfl) (by decide) (Or.inl rfl) ⟨Nat.le_refl _, Nat.le_refl _⟩ (fun l hl o ho => sp_X3_of hl ho) (fun v13 M12 => ?_)
    refine j_if_ne (pc := 56) C dX3_emptyIn_56 (tgt := 61) (by decide) (fun hc16 => ?_) (fun hc16 => ?_)
    · refine j_aload_n (pc := 61) C dX3_emptyIn_61 rfl ?_
      refine j_aload_n (pc := 62) C dX3_emptyIn_62 rfl ?_
      refine j_getR (pc := 63) C dX3_emptyIn_63 fl_X3_16 fr_X3_4 (fun v14 => ?_)
      refine j_callVv (pc := 66) C rfl dX3_emptyIn_66 lv_X3_107 rfl (Nat.le_of_ble_eq_true rfl) (Nat.le_of_ble_eq_true rfl) (by decide) (Or.inl rfl) ⟨Nat.le_refl _, Nat.le_refl _⟩ (fun l hl o ho => sp_X3_tickOn hl ho) (fun M15 => ?_)
      refine j_iinc (pc := 69) C dX3_emptyIn_69 rfl (v := (x2 + (1 : Int32))) rfl (Nat.le_of_ble_eq_true rfl) (ls' := [(2, .int (x2 + (1 : Int32))), (0, .ref x0), (1, .int x1)]) rfl ?_
      refine j_goto (pc := 72) C dX3_emptyIn_72 (tgt := 40) (by decide) ?_
      refine j_loc [1, 2, 0] rfl ?_
      exact h40 x0 x1 (x2 + (1 : Int32)) M15
    · refine j_iload_n (pc := 59) C dX3_emptyIn_59 rfl ?_
      exact j_ireturn (pc := 60) C rfl dX3_emptyIn_60 ⟨Nat.zero_le _, Nat.zero_le _⟩
theorem t_X3_emptyIn_l40 {z : Sh9} {N : Nv9} {X : Cx9} {out : Out9 × Mem9} (C : OK9 z N X out 3 (co9 out.1) cX3_emptyIn RX3 7 1 [])  : ∀ (n : Nat) (x0 : Nat) (x1 : Int32) (x2 : Int32) (M : Mem9), J9 z N X out 3 40 [(0, .ref x0), (1, .int x1), (2, .int x2)] [] M (0, 0) (fx9 (fun _ _ _ _ => none) (f_X3_emptyIn_b40 z ) n x0 x1 x2 M) := by
  intro n
  induction n with
  | zero => intro x0 x1 x2 M; exact j_none
  | succ n ih => intro x0 x1 x2 M; exact t_X3_emptyIn_b40 C  ih x0 x1 x2 M
def f_X3_emptyIn_b17 (z : Sh9)  (x0 : Nat) (x1 : Int32) (s0 : Int32) (s1 : Nat) (M : Mem9) : Re9 :=
  (bi9 (iv9 z s1 3 (f_X3_refused z s1 s0 M)) fun v6 M5 => (if v6 = 0 then ((rf9 z x0 3 2).bind fun v7 => ((rf9 z x0 3 3).bind fun v8 => (bv9 (f_X3_copyState z v7 (0 : Int32) v8 (0 : Int32) M5) fun M9 => (fx9 (fun _ _ _ _ => none) (f_X3_emptyIn_b40 z ) FU9 x0 x1 (0 : Int32) M9)))) else (ri9 (0 : Int32) M5)))
set_option maxRecDepth 20000 in
set_option maxHeartbeats 4000000 in
theorem t_X3_emptyIn_b17 {z : Sh9} {N : Nv9} {X : Cx9} {out : Out9 × Mem9} (C : OK9 z N X out 3 (co9 out.1) cX3_emptyIn RX3 7 1 [])  (x0 : Nat) (x1 : Int32) (s0 : Int32) (s1 : Nat) (M : Mem9) : J9 z N X out 3 17 [(0, .ref x0), (1, .int x1)] [.int s0, .ref s1] M (0, 0) (f_X3_emptyIn_b17 z  x0 x1 s0 s1 M) := by
  refine j_callVi (pc := 17) C rfl dX3_emptyIn_17 lv_X3_130 rfl (Nat.le_of_ble_eq_true rfl) (Nat.le_of_ble_eq_true rfl) (by decide) (Or.inl rfl) ⟨Nat.le_refl _, Nat.le_refl _⟩ (fun l hl o ho => sp_X3_refused hl ho) (fun v6 M5 => ?_)
  refine j_if_eq (pc := 20) C dX3_emptyIn_20 (tgt := 25) (by decide) (fun hc10 => ?_) (fun hc10 => ?_)
  · refine j_aload_n (pc := 25) C dX3_emptyIn_25 rfl ?_
    refine j_getR (pc := 26) C dX3_emptyIn_26 fl_X3_13 fr_X3_3 (fun v7 => ?_)
    refine j_iconst (pc := 29) C dX3_emptyIn_29 (v := 0) rfl ?_
    refine j_aload_n (pc := 30) C dX3_emptyIn_30 rfl ?_
    refine j_getR (pc := 31) C dX3_emptyIn_31 fl_X3_16 fr_X3_4 (fun v8 => ?_)
    refine j_iconst (pc := 34) C dX3_emptyIn_34 (v := 0) rfl ?_
    refine j_callSv (pc := 35) C rfl dX3_emptyIn_35 ls_X3_187 rfl (Nat.le_of_ble_eq_true rfl) (Nat.le_of_ble_eq_true rfl) (by decide) (Or.inl rfl) ⟨Nat.le_refl _, Nat.le_refl _⟩ (fun l hl o ho => sp_X3_copyState hl ho) (fun M9 => ?_)
    refine j_iconst (pc := 38) C dX3_emptyIn_38 (v := 0) rfl ?_
    refine j_istore_n (pc := 39) C dX3_emptyIn_39 (Nat.le_of_ble_eq_true rfl) (ls' := [(2, .int (0 : Int32)), (0, .ref x0), (1, .int x1)]) rfl ?_
    refine j_loc [1, 2, 0] rfl ?_
    exact t_X3_emptyIn_l40 C  FU9 x0 x1 (0 : Int32) M9
  · refine j_iconst (pc := 23) C dX3_emptyIn_23 (v := 0) rfl ?_
    exact j_ireturn (pc := 24) C rfl dX3_emptyIn_24 ⟨Nat.zero_le _, Nat.zero_le _⟩
def f_X3_emptyIn (z : Sh9) (a0 : Nat) (a1 : Int32) (M : Mem9) : Re9 :=
  ((rf9 z a0 3 2).bind fun v1 => (bi9 (f_X3_isLane z v1 a1 M) fun v3 M2 => (if v3 = 0 then (f_X3_emptyIn_b17 z  a0 a1 (1 : Int32) a0 M2) else (f_X3_emptyIn_b17 z  a0 a1 (0 : Int32) a0 M2))))
set_option maxRecDepth 20000 in
set_option maxHeartbeats 4000000 in
theorem t_X3_emptyIn {z : Sh9} {N : Nv9} {X : Cx9} {out : Out9 × Mem9} (C : OK9 z N X out 3 (co9 out.1) cX3_emptyIn RX3 7 1 []) (a0 : Nat) (a1 : Int32) (M : Mem9) : J9 z N X out 3 0 [(0, .ref a0), (1, .int a1)] [] M (0, 0) (f_X3_emptyIn z a0 a1 M) := by
  refine j_aload_n (pc := 0) C dX3_emptyIn_0 rfl ?_
  refine j_aload_n (pc := 1) C dX3_emptyIn_1 rfl ?_
  refine j_getR (pc := 2) C dX3_emptyIn_2 fl_X3_13 fr_X3_3 (fun v1 => ?_)
  refine j_iload_n (pc := 5) C dX3_emptyIn_5 rfl ?_
  refine j_callSi (pc := 6) C rfl dX3_emptyIn_6 ls_X3_44 rfl (Nat.le_of_ble_eq_true rfl) (Nat.le_of_ble_eq_true rfl) (by decide) (Or.inl rfl) ⟨Nat.le_refl _, Nat.le_refl _⟩ (fun l hl o ho => sp_X3_isLane hl ho) (fun v3 M2 => ?_)
  refine j_if_eq (pc := 9) C dX3_emptyIn_9 (tgt := 16) (by decide) (fun hc4 => ?_) (fun hc4 => ?_)
  · refine j_iconst (pc := 16) C dX3_emptyIn_16 (v := 1) rfl ?_
    exact t_X3_emptyIn_b17 C  a0 a1 (1 : Int32) a0 M2
  · refine j_iconst (pc := 12) C dX3_emptyIn_12 (v := 0) rfl ?_
    refine j_goto (pc := 13) C dX3_emptyIn_13 (tgt := 17) (by decide) ?_
    exact t_X3_emptyIn_b17 C  a0 a1 (0 : Int32) a0 M2
theorem sp_X3_emptyIn {l : Launch} {z : Sh9} {N : Nv9} {a0 : Nat} {a1 : Int32} {M : Mem9} {o : Out9 × Mem9} (hl : l.stackTraces = false) (h : f_X3_emptyIn z a0 a1 M = some o) : Sp9 l z N yX3_emptyIn (Cond.code yX3_emptyIn cX3_emptyIn 3 (some .int)) 7 [.ref a0, .int a1] M (co9 o.1) o :=
  sp9_of (rk := 1) (own := RX3) (by decide +kernel) rfl (Or.inr (Or.inl ⟨rfl, rfl⟩)) hl (Nat.le_of_ble_eq_true rfl) (fun X C => t_X3_emptyIn C a0 a1 M) h
def f_X3_at (z : Sh9) (a0 : Nat) (a1 : Int32) (M : Mem9) : Re9 :=
  ((gf9 z M a0 3 2).bind fun v1 => (if v1 ≤ a1 then (ri9 (-1 : Int32) M) else ((rf9 z a0 3 1).bind fun v2 => ((ld9 z M 10 v2 a1).bind fun v3 => (ri9 v3 M)))))
set_option maxRecDepth 20000 in
set_option maxHeartbeats 4000000 in
theorem t_X3_at {z : Sh9} {N : Nv9} {X : Cx9} {out : Out9 × Mem9} (C : OK9 z N X out 2 (co9 out.1) cX3_at RX3 0 1 []) (a0 : Nat) (a1 : Int32) (M : Mem9) : J9 z N X out 2 0 [(0, .ref a0), (1, .int a1)] [] M (0, 0) (f_X3_at z a0 a1 M) := by
  refine j_iload_n (pc := 0) C dX3_at_0 rfl ?_
  refine j_aload_n (pc := 1) C dX3_at_1 rfl ?_
  refine j_getI (pc := 2) C dX3_at_2 fl_X3_127 fi_X3_2 (fun v1 => ?_)
  refine j_icmp_ge (pc := 5) C dX3_at_5 (tgt := 17) (by decide) (fun hc4 => ?_) (fun hc4 => ?_)
  · refine j_iconst (pc := 17) C dX3_at_17 (v := -1) rfl ?_
    exact j_ireturn (pc := 18) C rfl dX3_at_18 ⟨Nat.zero_le _, Nat.zero_le _⟩
  · refine j_aload_n (pc := 8) C dX3_at_8 rfl ?_
    refine j_getR (pc := 9) C dX3_at_9 fl_X3_7 fr_X3_1 (fun v2 => ?_)
    refine j_iload_n (pc := 12) C dX3_at_12 rfl ?_
    refine j_iaload (pc := 13) C dX3_at_13 (fun v3 => ?_)
    refine j_goto (pc := 14) C dX3_at_14 (tgt := 18) (by decide) ?_
    exact j_ireturn (pc := 18) C rfl dX3_at_18 ⟨Nat.zero_le _, Nat.zero_le _⟩
theorem sp_X3_at {l : Launch} {z : Sh9} {N : Nv9} {a0 : Nat} {a1 : Int32} {M : Mem9} {o : Out9 × Mem9} (hl : l.stackTraces = false) (h : f_X3_at z a0 a1 M = some o) : Sp9 l z N yX3_at (Cond.code yX3_at cX3_at 2 (some .int)) 0 [.ref a0, .int a1] M (co9 o.1) o :=
  sp9_of (rk := 1) (own := RX3) (by decide +kernel) rfl (Or.inr (Or.inl ⟨rfl, rfl⟩)) hl (Nat.le_of_ble_eq_true rfl) (fun X C => t_X3_at C a0 a1 M) h
def f_X3_clear_b2 (z : Sh9) (r2 : Nat → Int32 → Mem9 → Re9) (x0 : Nat) (x1 : Int32) (M : Mem9) : Re9 :=
  (if (121 : Int32) ≤ x1 then ((st9 z M x0 (7 : Int32) (3 : Int32)).bind fun M1 => ((st9 z M1 x0 (8 : Int32) (12 : Int32)).bind fun M2 => ((st9 z M2 x0 (9 : Int32) (2 : Int32)).bind fun M3 => (rv9 M3)))) else ((st9 z M x0 x1 (0 : Int32)).bind fun M4 => (r2 x0 (x1 + (1 : Int32)) M4)))
set_option maxRecDepth 20000 in
set_option maxHeartbeats 4000000 in
theorem t_X3_clear_b2 {z : Sh9} {N : Nv9} {X : Cx9} {out : Out9 × Mem9} (C : OK9 z N X out 2 (co9 out.1) cX3_clear RX3 0 0 []) {r2 : Nat → Int32 → Mem9 → Re9} (h2 : ∀ (x0 : Nat) (x1 : Int32) (M : Mem9), J9 z N X out 2 2 [(0, .ref x0), (1, .int x1)] [] M (0, 0) (r2 x0 x1 M)) (x0 : Nat) (x1 : Int32) (M : Mem9) : J9 z N X out 2 2 [(0, .ref x0), (1, .int x1)] [] M (0, 0) (f_X3_clear_b2 z r2 x0 x1 M) := by
  refine j_iload_n (pc := 2) C dX3_clear_2 rfl ?_
  refine j_bipush (pc := 3) C dX3_clear_3 (v := 121) rfl ?_
  refine j_icmp_ge (pc := 5) C dX3_clear_5 (tgt := 18) (by decide) (fun hc5 => ?_) (fun hc5 => ?_)
  · refine j_aload_n (pc := 18) C dX3_clear_18 rfl ?_
    refine j_bipush (pc := 19) C dX3_clear_19 (v := 7) rfl ?_
    refine j_iconst (pc := 21) C dX3_clear_21 (v := 3) rfl ?_
    refine j_iastore (pc := 22) C dX3_clear_22 (fun M1 => ?_)
    refine j_aload_n (pc := 23) C dX3_clear_23 rfl ?_
    refine j_bipush (pc := 24) C dX3_clear_24 (v := 8) rfl ?_
    refine j_bipush (pc := 26) C dX3_clear_26 (v := 12) rfl ?_
    refine j_iastore (pc := 28) C dX3_clear_28 (fun M2 => ?_)
    refine j_aload_n (pc := 29) C dX3_clear_29 rfl ?_
    refine j_bipush (pc := 30) C dX3_clear_30 (v := 9) rfl ?_
    refine j_iconst (pc := 32) C dX3_clear_32 (v := 2) rfl ?_
    refine j_iastore (pc := 33) C dX3_clear_33 (fun M3 => ?_)
    exact j_return (pc := 34) C rfl dX3_clear_34 ⟨Nat.zero_le _, Nat.zero_le _⟩
  · refine j_aload_n (pc := 8) C dX3_clear_8 rfl ?_
    refine j_iload_n (pc := 9) C dX3_clear_9 rfl ?_
    refine j_iconst (pc := 10) C dX3_clear_10 (v := 0) rfl ?_
    refine j_iastore (pc := 11) C dX3_clear_11 (fun M4 => ?_)
    refine j_iinc (pc := 12) C dX3_clear_12 rfl (v := (x1 + (1 : Int32))) rfl (Nat.le_of_ble_eq_true rfl) (ls' := [(1, .int (x1 + (1 : Int32))), (0, .ref x0)]) rfl ?_
    refine j_goto (pc := 15) C dX3_clear_15 (tgt := 2) (by decide) ?_
    refine j_loc [1, 0] rfl ?_
    exact h2 x0 (x1 + (1 : Int32)) M4
theorem t_X3_clear_l2 {z : Sh9} {N : Nv9} {X : Cx9} {out : Out9 × Mem9} (C : OK9 z N X out 2 (co9 out.1) cX3_clear RX3 0 0 [])  : ∀ (n : Nat) (x0 : Nat) (x1 : Int32) (M : Mem9), J9 z N X out 2 2 [(0, .ref x0), (1, .int x1)] [] M (0, 0) (fx9 (fun _ _ _ => none) (f_X3_clear_b2 z ) n x0 x1 M) := by
  intro n
  induction n with
  | zero => intro x0 x1 M; exact j_none
  | succ n ih => intro x0 x1 M; exact t_X3_clear_b2 C  ih x0 x1 M
def f_X3_clear (z : Sh9) (a0 : Nat) (M : Mem9) : Re9 :=
  (fx9 (fun _ _ _ => none) (f_X3_clear_b2 z ) FU9 a0 (0 : Int32) M)
set_option maxRecDepth 20000 in
set_option maxHeartbeats 4000000 in
theorem t_X3_clear {z : Sh9} {N : Nv9} {X : Cx9} {out : Out9 × Mem9} (C : OK9 z N X out 2 (co9 out.1) cX3_clear RX3 0 0 []) (a0 : Nat) (M : Mem9) : J9 z N X out 2 0 [(0, .ref a0)] [] M (0, 0) (f_X3_clear z a0 M) := by
  refine j_iconst (pc := 0) C dX3_clear_0 (v := 0) rfl ?_
  refine j_istore_n (pc := 1) C dX3_clear_1 (Nat.le_of_ble_eq_true rfl) (ls' := [(1, .int (0 : Int32)), (0, .ref a0)]) rfl ?_
  refine j_loc [1, 0] rfl ?_
  exact t_X3_clear_l2 C  FU9 a0 (0 : Int32) M
theorem sp_X3_clear {l : Launch} {z : Sh9} {N : Nv9} {a0 : Nat} {M : Mem9} {o : Out9 × Mem9} (hl : l.stackTraces = false) (h : f_X3_clear z a0 M = some o) : Sp9 l z N yX3_clear (Cond.code yX3_clear cX3_clear 2 none) 0 [.ref a0] M (co9 o.1) o :=
  sp9_of (rk := 0) (own := RX3) (by decide +kernel) rfl (Or.inl ⟨rfl, rfl⟩) hl (Nat.le_of_ble_eq_true rfl) (fun X C => t_X3_clear C a0 M) h
def f_X3_canMend (z : Sh9) (a0 : Nat) (a1 : Int32) (M : Mem9) : Re9 :=
  (bi9 (f_X3_isLane z a0 a1 M) fun v2 M1 => (if v2 = 0 then (rz9 (0 : Int32) M1) else (bi9 (f_X3_of z a0 a1 (5 : Int32) M1) fun v4 M3 => (if v4 = (1 : Int32) then (bi9 (f_X3_isCovered z a0 a1 M3) fun v6 M5 => (if v6 = 0 then (rz9 (1 : Int32) M5) else (rz9 (0 : Int32) M5))) else (rz9 (0 : Int32) M3)))))
set_option maxRecDepth 20000 in
set_option maxHeartbeats 4000000 in
theorem t_X3_canMend {z : Sh9} {N : Nv9} {X : Cx9} {out : Out9 × Mem9} (C : OK9 z N X out 2 (co9 out.1) cX3_canMend RX3 5 2 []) (a0 : Nat) (a1 : Int32) (M : Mem9) : J9 z N X out 2 0 [(0, .ref a0), (1, .int a1)] [] M (0, 0) (f_X3_canMend z a0 a1 M) := by
  refine j_aload_n (pc := 0) C dX3_canMend_0 rfl ?_
  refine j_iload_n (pc := 1) C dX3_canMend_1 rfl ?_
  refine j_callSi (pc := 2) C rfl dX3_canMend_2 ls_X3_44 rfl (Nat.le_of_ble_eq_true rfl) (Nat.le_of_ble_eq_true rfl) (by decide) (Or.inl rfl) ⟨Nat.le_refl _, Nat.le_refl _⟩ (fun l hl o ho => sp_X3_isLane hl ho) (fun v2 M1 => ?_)
  refine j_if_eq (pc := 5) C dX3_canMend_5 (tgt := 30) (by decide) (fun hc9 => ?_) (fun hc9 => ?_)
  · refine j_iconst (pc := 30) C dX3_canMend_30 (v := 0) rfl ?_
    exact j_zreturn (pc := 31) C rfl dX3_canMend_31 ⟨Nat.zero_le _, Nat.zero_le _⟩
  · refine j_aload_n (pc := 8) C dX3_canMend_8 rfl ?_
    refine j_iload_n (pc := 9) C dX3_canMend_9 rfl ?_
    refine j_iconst (pc := 10) C dX3_canMend_10 (v := 5) rfl ?_
    refine j_callSi (pc := 11) C rfl dX3_canMend_11 ls_X3_48 rfl (Nat.le_of_ble_eq_true rfl) (Nat.le_of_ble_eq_true rfl) (by decide) (Or.inl rfl) ⟨Nat.le_refl _, Nat.le_refl _⟩ (fun l hl o ho => sp_X3_of hl ho) (fun v4 M3 => ?_)
    refine j_iconst (pc := 14) C dX3_canMend_14 (v := 1) rfl ?_
    refine j_icmp_ne (pc := 15) C dX3_canMend_15 (tgt := 30) (by decide) (fun hc8 => ?_) (fun hc8 => ?_)
    · refine j_iconst (pc := 30) C dX3_canMend_30 (v := 0) rfl ?_
      exact j_zreturn (pc := 31) C rfl dX3_canMend_31 ⟨Nat.zero_le _, Nat.zero_le _⟩
    · refine j_aload_n (pc := 18) C dX3_canMend_18 rfl ?_
      refine j_iload_n (pc := 19) C dX3_canMend_19 rfl ?_
      refine j_callSi (pc := 20) C rfl dX3_canMend_20 ls_X3_86 rfl (Nat.le_of_ble_eq_true rfl) (Nat.le_of_ble_eq_true rfl) (by decide) (Or.inl rfl) ⟨Nat.le_refl _, Nat.le_refl _⟩ (fun l hl o ho => sp_X3_isCovered hl ho) (fun v6 M5 => ?_)
      refine j_if_ne (pc := 23) C dX3_canMend_23 (tgt := 30) (by decide) (fun hc7 => ?_) (fun hc7 => ?_)
      · refine j_iconst (pc := 30) C dX3_canMend_30 (v := 0) rfl ?_
        exact j_zreturn (pc := 31) C rfl dX3_canMend_31 ⟨Nat.zero_le _, Nat.zero_le _⟩
      · refine j_iconst (pc := 26) C dX3_canMend_26 (v := 1) rfl ?_
        refine j_goto (pc := 27) C dX3_canMend_27 (tgt := 31) (by decide) ?_
        exact j_zreturn (pc := 31) C rfl dX3_canMend_31 ⟨Nat.zero_le _, Nat.zero_le _⟩
theorem sp_X3_canMend {l : Launch} {z : Sh9} {N : Nv9} {a0 : Nat} {a1 : Int32} {M : Mem9} {o : Out9 × Mem9} (hl : l.stackTraces = false) (h : f_X3_canMend z a0 a1 M = some o) : Sp9 l z N yX3_canMend (Cond.code yX3_canMend cX3_canMend 2 (some .boolean)) 5 [.ref a0, .int a1] M (co9 o.1) o :=
  sp9_of (rk := 2) (own := RX3) (by decide +kernel) rfl (Or.inr (Or.inr (Or.inl ⟨rfl, rfl⟩))) hl (Nat.le_of_ble_eq_true rfl) (fun X C => t_X3_canMend C a0 a1 M) h
def f_X3_done_b14 (z : Sh9)  (s0 : Int32) (s1 : Int32) (s2 : Nat) (M : Mem9) : Re9 :=
  ((pf9 z M s2 3 12 (s1 + s0)).bind fun M3 => (rz9 (1 : Int32) M3))
set_option maxRecDepth 20000 in
set_option maxHeartbeats 4000000 in
theorem t_X3_done_b14 {z : Sh9} {N : Nv9} {X : Cx9} {out : Out9 × Mem9} (C : OK9 z N X out 2 (co9 out.1) cX3_done RX3 0 2 [])  (s0 : Int32) (s1 : Int32) (s2 : Nat) (M : Mem9) : J9 z N X out 2 14 [] [.int s0, .int s1, .ref s2] M (0, 0) (f_X3_done_b14 z  s0 s1 s2 M) := by
  refine j_iadd (pc := 14) C dX3_done_14 ?_
  refine j_putI (pc := 15) C dX3_done_15 fl_X3_142 fi_X3_12 rfl rfl (fun M3 => ?_)
  refine j_iconst (pc := 18) C dX3_done_18 (v := 1) rfl ?_
  exact j_zreturn (pc := 19) C rfl dX3_done_19 ⟨Nat.zero_le _, Nat.zero_le _⟩
def f_X3_done (z : Sh9) (a0 : Nat) (a1 : Int32) (M : Mem9) : Re9 :=
  ((gf9 z M a0 3 12).bind fun v1 => (if a1 = 0 then (f_X3_done_b14 z  (1 : Int32) v1 a0 M) else (f_X3_done_b14 z  (0 : Int32) v1 a0 M)))
set_option maxRecDepth 20000 in
set_option maxHeartbeats 4000000 in
theorem t_X3_done {z : Sh9} {N : Nv9} {X : Cx9} {out : Out9 × Mem9} (C : OK9 z N X out 2 (co9 out.1) cX3_done RX3 0 2 []) (a0 : Nat) (a1 : Int32) (M : Mem9) : J9 z N X out 2 0 [(0, .ref a0), (1, .int a1)] [] M (0, 0) (f_X3_done z a0 a1 M) := by
  refine j_aload_n (pc := 0) C dX3_done_0 rfl ?_
  refine j_dup (pc := 1) C dX3_done_1 rfl ?_
  refine j_getI (pc := 2) C dX3_done_2 fl_X3_142 fi_X3_12 (fun v1 => ?_)
  refine j_iload_n (pc := 5) C dX3_done_5 rfl ?_
  refine j_if_eq (pc := 6) C dX3_done_6 (tgt := 13) (by decide) (fun hc2 => ?_) (fun hc2 => ?_)
  · refine j_iconst (pc := 13) C dX3_done_13 (v := 1) rfl ?_
    refine j_loc [] rfl ?_
    exact t_X3_done_b14 C  (1 : Int32) v1 a0 M
  · refine j_iconst (pc := 9) C dX3_done_9 (v := 0) rfl ?_
    refine j_goto (pc := 10) C dX3_done_10 (tgt := 14) (by decide) ?_
    refine j_loc [] rfl ?_
    exact t_X3_done_b14 C  (0 : Int32) v1 a0 M
theorem sp_X3_done {l : Launch} {z : Sh9} {N : Nv9} {a0 : Nat} {a1 : Int32} {M : Mem9} {o : Out9 × Mem9} (hl : l.stackTraces = false) (h : f_X3_done z a0 a1 M = some o) : Sp9 l z N yX3_done (Cond.code yX3_done cX3_done 2 (some .boolean)) 0 [.ref a0, .int a1] M (co9 o.1) o :=
  sp9_of (rk := 2) (own := RX3) (by decide +kernel) rfl (Or.inr (Or.inr (Or.inl ⟨rfl, rfl⟩))) hl (Nat.le_of_ble_eq_true rfl) (fun X C => t_X3_done C a0 a1 M) h
def f_X3_figures_b106 (z : Sh9)  (x1 : Int32) (x5 : Int32) (M : Mem9) : Re9 :=
  (if x1 = (-1 : Int32) then (ri9 (-1 : Int32) M) else (ri9 x5 M))
set_option maxRecDepth 20000 in
set_option maxHeartbeats 4000000 in
theorem t_X3_figures_b106 {z : Sh9} {N : Nv9} {X : Cx9} {out : Out9 × Mem9} (C : OK9 z N X out 9 (co9 out.1) cX3_figures RX3 1 1 [])  (x1 : Int32) (x5 : Int32) (M : Mem9) : J9 z N X out 9 106 [(1, .int x1), (5, .int x5)] [] M (0, 0) (f_X3_figures_b106 z  x1 x5 M) := by
  refine j_iload_n (pc := 106) C dX3_figures_106 rfl ?_
  refine j_iconst (pc := 107) C dX3_figures_107 (v := -1) rfl ?_
  refine j_icmp_ne (pc := 108) C dX3_figures_108 (tgt := 115) (by decide) (fun hc17 => ?_) (fun hc17 => ?_)
  · refine j_iload (pc := 115) C dX3_figures_115 rfl ?_
    exact j_ireturn (pc := 117) C rfl dX3_figures_117 ⟨Nat.zero_le _, Nat.zero_le _⟩
  · refine j_iconst (pc := 111) C dX3_figures_111 (v := -1) rfl ?_
    refine j_goto (pc := 112) C dX3_figures_112 (tgt := 117) (by decide) ?_
    exact j_ireturn (pc := 117) C rfl dX3_figures_117 ⟨Nat.zero_le _, Nat.zero_le _⟩
def f_X3_figures_b16 (z : Sh9) (r16 : Nat → Int32 → Int32 → Int32 → Int32 → Int32 → Mem9 → Re9) (x0 : Nat) (x1 : Int32) (x3 : Int32) (x4 : Int32) (x5 : Int32) (x6 : Int32) (M : Mem9) : Re9 :=
  (if x6 ≤ 0 then (f_X3_figures_b106 z  x1 x5 M) else (if x1 = (-1 : Int32) then (f_X3_figures_b106 z  x1 x5 M) else ((gf9 z M x0 3 11).bind fun v2 => (bi9 (iv9 z x0 3 (f_X3_at z x0 v2 M)) fun v4 M3 => (nm9 (v4 - (48 : Int32)) fun (y5 : Int32) => (nm9 (x5 + (y5 * x6)) fun (y6 : Int32) => (bi9 (f_X3_in z (Int32.toInt64 y5) (0 : Int64) (9 : Int64) M3) fun v8 M7 => (if v8 = 0 then (ri9 (-1 : Int32) M7) else (if x4 < y6 then (ri9 (-1 : Int32) M7) else (if x3 ≤ ((y6 + x6) - (1 : Int32)) then ((gf9 z M7 x0 3 11).bind fun v9 => ((pf9 z M7 x0 3 11 (v9 + (1 : Int32))).bind fun M10 => ((dv9 x6 (10 : Int32)).bind fun v11 => (r16 x0 x1 x3 x4 y6 v11 M10)))) else (ri9 (-1 : Int32) M7)))))))))))
set_option maxRecDepth 20000 in
set_option maxHeartbeats 4000000 in
theorem t_X3_figures_b16 {z : Sh9} {N : Nv9} {X : Cx9} {out : Out9 × Mem9} (C : OK9 z N X out 9 (co9 out.1) cX3_figures RX3 1 1 []) {r16 : Nat → Int32 → Int32 → Int32 → Int32 → Int32 → Mem9 → Re9} (h16 : ∀ (x0 : Nat) (x1 : Int32) (x3 : Int32) (x4 : Int32) (x5 : Int32) (x6 : Int32) (M : Mem9), J9 z N X out 9 16 [(0, .ref x0), (1, .int x1), (3, .int x3), (4, .int x4), (5, .int x5), (6, .int x6)] [] M (0, 0) (r16 x0 x1 x3 x4 x5 x6 M)) (x0 : Nat) (x1 : Int32) (x3 : Int32) (x4 : Int32) (x5 : Int32) (x6 : Int32) (M : Mem9) : J9 z N X out 9 16 [(0, .ref x0), (1, .int x1), (3, .int x3), (4, .int x4), (5, .int x5), (6, .int x6)] [] M (0, 0) (f_X3_figures_b16 z r16 x0 x1 x3 x4 x5 x6 M) := by
  refine j_iload (pc := 16) C dX3_figures_16 rfl ?_
  refine j_if_le (pc := 18) C dX3_figures_18 (tgt := 106) (by decide) (fun hc16 => ?_) (fun hc16 => ?_)
  · refine j_loc [1, 4] rfl ?_
    exact t_X3_figures_b106 C  x1 x5 M
  · refine j_iload_n (pc := 21) C dX3_figures_21 rfl ?_
    refine j_iconst (pc := 22) C dX3_figures_22 (v := -1) rfl ?_
    refine j_icmp_eq (pc := 23) C dX3_figures_23 (tgt := 106) (by decide) (fun hc15 => ?_) (fun hc15 => ?_)
    · refine j_loc [1, 4] rfl ?_
      exact t_X3_figures_b106 C  x1 x5 M
    · refine j_aload_n (pc := 26) C dX3_figures_26 rfl ?_
      refine j_aload_n (pc := 27) C dX3_figures_27 rfl ?_
      refine j_getI (pc := 28) C dX3_figures_28 fl_X3_133 fi_X3_11 (fun v2 => ?_)
      refine j_callVi (pc := 31) C rfl dX3_figures_31 lv_X3_136 rfl (Nat.le_of_ble_eq_true rfl) (Nat.le_of_ble_eq_true rfl) (by decide) (Or.inl rfl) ⟨Nat.le_refl _, Nat.le_refl _⟩ (fun l hl o ho => sp_X3_at hl ho) (fun v4 M3 => ?_)
      refine j_bipush (pc := 34) C dX3_figures_34 (v := 48) rfl ?_
      refine j_isub (pc := 36) C dX3_figures_36 ?_
      refine j_nm (st' := fun x9 : Int32 => .int x9 :: []) rfl (fun y5 => ?_)
      refine j_istore (pc := 37) C dX3_figures_37 (Nat.le_of_ble_eq_true rfl) (ls' := [(7, .int y5), (0, .ref x0), (1, .int x1), (3, .int x3), (4, .int x4), (5, .int x5), (6, .int x6)]) rfl ?_
      refine j_iload (pc := 39) C dX3_figures_39 rfl ?_
      refine j_iload (pc := 41) C dX3_figures_41 rfl ?_
      refine j_iload (pc := 43) C dX3_figures_43 rfl ?_
      refine j_imul (pc := 45) C dX3_figures_45 ?_
      refine j_iadd (pc := 46) C dX3_figures_46 ?_
      refine j_nm (st' := fun x9 : Int32 => .int x9 :: []) rfl (fun y6 => ?_)
      refine j_istore (pc := 47) C dX3_figures_47 (Nat.le_of_ble_eq_true rfl) (ls' := [(8, .int y6), (7, .int y5), (0, .ref x0), (1, .int x1), (3, .int x3), (4, .int x4), (5, .int x5), (6, .int x6)]) rfl ?_
      refine j_iload (pc := 49) C dX3_figures_49 rfl ?_
      refine j_i2l (pc := 51) C dX3_figures_51 ?_
      refine j_lconst (pc := 52) C dX3_figures_52 (v := 0) rfl ?_
      refine j_ldc2 (pc := 53) C dX3_figures_53 (v := 9) w9_825 ?_
      refine j_callSi (pc := 56) C rfl dX3_figures_56 ls_X3_40 rfl (Nat.le_of_ble_eq_true rfl) (Nat.le_of_ble_eq_true rfl) (by decide) (Or.inl rfl) ⟨Nat.le_refl _, Nat.le_refl _⟩ (fun l hl o ho => sp_X3_in hl ho) (fun v8 M7 => ?_)
      refine j_if_eq (pc := 59) C dX3_figures_59 (tgt := 80) (by decide) (fun hc14 => ?_) (fun hc14 => ?_)
      · refine j_iconst (pc := 80) C dX3_figures_80 (v := -1) rfl ?_
        exact j_ireturn (pc := 81) C rfl dX3_figures_81 ⟨Nat.zero_le _, Nat.zero_le _⟩
      · refine j_iload (pc := 62) C dX3_figures_62 rfl ?_
        refine j_iload (pc := 64) C dX3_figures_64 rfl ?_
        refine j_icmp_gt (pc := 66) C dX3_figures_66 (tgt := 80) (by decide) (fun hc13 => ?_) (fun hc13 => ?_)
        · refine j_iconst (pc := 80) C dX3_figures_80 (v := -1) rfl ?_
          exact j_ireturn (pc := 81) C rfl dX3_figures_81 ⟨Nat.zero_le _, Nat.zero_le _⟩
        · refine j_iload (pc := 69) C dX3_figures_69 rfl ?_
          refine j_iload (pc := 71) C dX3_figures_71 rfl ?_
          refine j_iadd (pc := 73) C dX3_figures_73 ?_
          refine j_iconst (pc := 74) C dX3_figures_74 (v := 1) rfl ?_
          refine j_isub (pc := 75) C dX3_figures_75 ?_
          refine j_iload_n (pc := 76) C dX3_figures_76 rfl ?_
          refine j_icmp_ge (pc := 77) C dX3_figures_77 (tgt := 82) (by decide) (fun hc12 => ?_) (fun hc12 => ?_)
          · refine j_iload (pc := 82) C dX3_figures_82 rfl ?_
            refine j_istore (pc := 84) C dX3_figures_84 (Nat.le_of_ble_eq_true rfl) (ls' := [(5, .int y6), (8, .int y6), (7, .int y5), (0, .ref x0), (1, .int x1), (3, .int x3), (4, .int x4), (6, .int x6)]) rfl ?_
            refine j_aload_n (pc := 86) C dX3_figures_86 rfl ?_
            refine j_dup (pc := 87) C dX3_figures_87 rfl ?_
            refine j_getI (pc := 88) C dX3_figures_88 fl_X3_133 fi_X3_11 (fun v9 => ?_)
            refine j_iconst (pc := 91) C dX3_figures_91 (v := 1) rfl ?_
            refine j_iadd (pc := 92) C dX3_figures_92 ?_
            refine j_putI (pc := 93) C dX3_figures_93 fl_X3_133 fi_X3_11 rfl rfl (fun M10 => ?_)
            refine j_iload (pc := 96) C dX3_figures_96 rfl ?_
            refine j_bipush (pc := 98) C dX3_figures_98 (v := 10) rfl ?_
            refine j_idiv (pc := 100) C dX3_figures_100 (fun v11 => ?_)
            refine j_istore (pc := 101) C dX3_figures_101 (Nat.le_of_ble_eq_true rfl) (ls' := [(6, .int v11), (5, .int y6), (8, .int y6), (7, .int y5), (0, .ref x0), (1, .int x1), (3, .int x3), (4, .int x4)]) rfl ?_
            refine j_goto (pc := 103) C dX3_figures_103 (tgt := 16) (by decide) ?_
            refine j_loc [4, 5, 6, 7, 1, 0] rfl ?_
            exact h16 x0 x1 x3 x4 y6 v11 M10
          · refine j_iconst (pc := 80) C dX3_figures_80 (v := -1) rfl ?_
            exact j_ireturn (pc := 81) C rfl dX3_figures_81 ⟨Nat.zero_le _, Nat.zero_le _⟩
theorem t_X3_figures_l16 {z : Sh9} {N : Nv9} {X : Cx9} {out : Out9 × Mem9} (C : OK9 z N X out 9 (co9 out.1) cX3_figures RX3 1 1 [])  : ∀ (n : Nat) (x0 : Nat) (x1 : Int32) (x3 : Int32) (x4 : Int32) (x5 : Int32) (x6 : Int32) (M : Mem9), J9 z N X out 9 16 [(0, .ref x0), (1, .int x1), (3, .int x3), (4, .int x4), (5, .int x5), (6, .int x6)] [] M (0, 0) (fx9 (fun _ _ _ _ _ _ _ => none) (f_X3_figures_b16 z ) n x0 x1 x3 x4 x5 x6 M) := by
  intro n
  induction n with
  | zero => intro x0 x1 x3 x4 x5 x6 M; exact j_none
  | succ n ih => intro x0 x1 x3 x4 x5 x6 M; exact t_X3_figures_b16 C  ih x0 x1 x3 x4 x5 x6 M
def f_X3_figures_b14 (z : Sh9)  (x0 : Nat) (x1 : Int32) (x3 : Int32) (x4 : Int32) (x5 : Int32) (s0 : Int32) (M : Mem9) : Re9 :=
  (fx9 (fun _ _ _ _ _ _ _ => none) (f_X3_figures_b16 z ) FU9 x0 x1 x3 x4 x5 s0 M)
set_option maxRecDepth 20000 in
set_option maxHeartbeats 4000000 in
theorem t_X3_figures_b14 {z : Sh9} {N : Nv9} {X : Cx9} {out : Out9 × Mem9} (C : OK9 z N X out 9 (co9 out.1) cX3_figures RX3 1 1 [])  (x0 : Nat) (x1 : Int32) (x3 : Int32) (x4 : Int32) (x5 : Int32) (s0 : Int32) (M : Mem9) : J9 z N X out 9 14 [(0, .ref x0), (1, .int x1), (3, .int x3), (4, .int x4), (5, .int x5)] [.int s0] M (0, 0) (f_X3_figures_b14 z  x0 x1 x3 x4 x5 s0 M) := by
  refine j_istore (pc := 14) C dX3_figures_14 (Nat.le_of_ble_eq_true rfl) (ls' := [(6, .int s0), (0, .ref x0), (1, .int x1), (3, .int x3), (4, .int x4), (5, .int x5)]) rfl ?_
  refine j_loc [1, 2, 3, 4, 5, 0] rfl ?_
  exact t_X3_figures_l16 C  FU9 x0 x1 x3 x4 x5 s0 M
def f_X3_figures (z : Sh9) (a0 : Nat) (a1 : Int32) (a2 : Int32) (a3 : Int32) (a4 : Int32) (M : Mem9) : Re9 :=
  (if a2 = (2 : Int32) then (f_X3_figures_b14 z  a0 a1 a3 a4 (0 : Int32) (10 : Int32) M) else (f_X3_figures_b14 z  a0 a1 a3 a4 (0 : Int32) (1 : Int32) M))
set_option maxRecDepth 20000 in
set_option maxHeartbeats 4000000 in
theorem t_X3_figures {z : Sh9} {N : Nv9} {X : Cx9} {out : Out9 × Mem9} (C : OK9 z N X out 9 (co9 out.1) cX3_figures RX3 1 1 []) (a0 : Nat) (a1 : Int32) (a2 : Int32) (a3 : Int32) (a4 : Int32) (M : Mem9) : J9 z N X out 9 0 [(0, .ref a0), (1, .int a1), (2, .int a2), (3, .int a3), (4, .int a4)] [] M (0, 0) (f_X3_figures z a0 a1 a2 a3 a4 M) := by
  refine j_iconst (pc := 0) C dX3_figures_0 (v := 0) rfl ?_
  refine j_istore (pc := 1) C dX3_figures_1 (Nat.le_of_ble_eq_true rfl) (ls' := [(5, .int (0 : Int32)), (0, .ref a0), (1, .int a1), (2, .int a2), (3, .int a3), (4, .int a4)]) rfl ?_
  refine j_iload_n (pc := 3) C dX3_figures_3 rfl ?_
  refine j_iconst (pc := 4) C dX3_figures_4 (v := 2) rfl ?_
  refine j_icmp_ne (pc := 5) C dX3_figures_5 (tgt := 13) (by decide) (fun hc1 => ?_) (fun hc1 => ?_)
  · refine j_iconst (pc := 13) C dX3_figures_13 (v := 1) rfl ?_
    refine j_loc [1, 2, 4, 5, 0] rfl ?_
    exact t_X3_figures_b14 C  a0 a1 a3 a4 (0 : Int32) (1 : Int32) M
  · refine j_bipush (pc := 8) C dX3_figures_8 (v := 10) rfl ?_
    refine j_goto (pc := 10) C dX3_figures_10 (tgt := 14) (by decide) ?_
    refine j_loc [1, 2, 4, 5, 0] rfl ?_
    exact t_X3_figures_b14 C  a0 a1 a3 a4 (0 : Int32) (10 : Int32) M
theorem sp_X3_figures {l : Launch} {z : Sh9} {N : Nv9} {a0 : Nat} {a1 : Int32} {a2 : Int32} {a3 : Int32} {a4 : Int32} {M : Mem9} {o : Out9 × Mem9} (hl : l.stackTraces = false) (h : f_X3_figures z a0 a1 a2 a3 a4 M = some o) : Sp9 l z N yX3_figures (Cond.code yX3_figures cX3_figures 9 (some .int)) 1 [.ref a0, .int a1, .int a2, .int a3, .int a4] M (co9 o.1) o :=
  sp9_of (rk := 1) (own := RX3) (by decide +kernel) rfl (Or.inr (Or.inl ⟨rfl, rfl⟩)) hl (Nat.le_of_ble_eq_true rfl) (fun X C => t_X3_figures C a0 a1 a2 a3 a4 M) h
def f_X3_laneOn_b6 (z : Sh9) (r6 : Nat → Int32 → Int32 → Mem9 → Re9) (x0 : Nat) (x1 : Int32) (x2 : Int32) (M : Mem9) : Re9 :=
  (if (37 : Int32) ≤ x2 then (bv9 (f_X3_lay z x0 x1 (3 : Int32) (48 : Int32) M) fun M2 => ((ld9 z M2 10 x0 (0 : Int32)).bind fun v3 => ((st9 z M2 x0 (0 : Int32) (v3 + (1 : Int32))).bind fun M4 => (ri9 x1 M4)))) else (bv9 (f_X3_lay z x0 x1 x2 (0 : Int32) M) fun M5 => (r6 x0 x1 (x2 + (1 : Int32)) M5)))
set_option maxRecDepth 20000 in
set_option maxHeartbeats 4000000 in
theorem t_X3_laneOn_b6 {z : Sh9} {N : Nv9} {X : Cx9} {out : Out9 × Mem9} (C : OK9 z N X out 3 (co9 out.1) cX3_laneOn RX3 1 1 []) {r6 : Nat → Int32 → Int32 → Mem9 → Re9} (h6 : ∀ (x0 : Nat) (x1 : Int32) (x2 : Int32) (M : Mem9), J9 z N X out 3 6 [(0, .ref x0), (1, .int x1), (2, .int x2)] [] M (0, 0) (r6 x0 x1 x2 M)) (x0 : Nat) (x1 : Int32) (x2 : Int32) (M : Mem9) : J9 z N X out 3 6 [(0, .ref x0), (1, .int x1), (2, .int x2)] [] M (0, 0) (f_X3_laneOn_b6 z r6 x0 x1 x2 M) := by
  refine j_iload_n (pc := 6) C dX3_laneOn_6 rfl ?_
  refine j_bipush (pc := 7) C dX3_laneOn_7 (v := 37) rfl ?_
  refine j_icmp_ge (pc := 9) C dX3_laneOn_9 (tgt := 25) (by decide) (fun hc6 => ?_) (fun hc6 => ?_)
  · refine j_aload_n (pc := 25) C dX3_laneOn_25 rfl ?_
    refine j_iload_n (pc := 26) C dX3_laneOn_26 rfl ?_
    refine j_iconst (pc := 27) C dX3_laneOn_27 (v := 3) rfl ?_
    refine j_bipush (pc := 28) C dX3_laneOn_28 (v := 48) rfl ?_
    refine j_callSv (pc := 30) C rfl dX3_laneOn_30 ls_X3_67 rfl (Nat.le_of_ble_eq_true rfl) (Nat.le_of_ble_eq_true rfl) (by decide) (Or.inl rfl) ⟨Nat.le_refl _, Nat.le_refl _⟩ (fun l hl o ho => sp_X3_lay hl ho) (fun M2 => ?_)
    refine j_aload_n (pc := 33) C dX3_laneOn_33 rfl ?_
    refine j_iconst (pc := 34) C dX3_laneOn_34 (v := 0) rfl ?_
    refine j_dup2_11 (pc := 35) C dX3_laneOn_35 rfl rfl ?_
    refine j_iaload (pc := 36) C dX3_laneOn_36 (fun v3 => ?_)
    refine j_iconst (pc := 37) C dX3_laneOn_37 (v := 1) rfl ?_
    refine j_iadd (pc := 38) C dX3_laneOn_38 ?_
    refine j_iastore (pc := 39) C dX3_laneOn_39 (fun M4 => ?_)
    refine j_iload_n (pc := 40) C dX3_laneOn_40 rfl ?_
    exact j_ireturn (pc := 41) C rfl dX3_laneOn_41 ⟨Nat.zero_le _, Nat.zero_le _⟩
  · refine j_aload_n (pc := 12) C dX3_laneOn_12 rfl ?_
    refine j_iload_n (pc := 13) C dX3_laneOn_13 rfl ?_
    refine j_iload_n (pc := 14) C dX3_laneOn_14 rfl ?_
    refine j_iconst (pc := 15) C dX3_laneOn_15 (v := 0) rfl ?_
    refine j_callSv (pc := 16) C rfl dX3_laneOn_16 ls_X3_67 rfl (Nat.le_of_ble_eq_true rfl) (Nat.le_of_ble_eq_true rfl) (by decide) (Or.inl rfl) ⟨Nat.le_refl _, Nat.le_refl _⟩ (fun l hl o ho => sp_X3_lay hl ho) (fun M5 => ?_)
    refine j_iinc (pc := 19) C dX3_laneOn_19 rfl (v := (x2 + (1 : Int32))) rfl (Nat.le_of_ble_eq_true rfl) (ls' := [(2, .int (x2 + (1 : Int32))), (0, .ref x0), (1, .int x1)]) rfl ?_
    refine j_goto (pc := 22) C dX3_laneOn_22 (tgt := 6) (by decide) ?_
    refine j_loc [1, 2, 0] rfl ?_
    exact h6 x0 x1 (x2 + (1 : Int32)) M5
theorem t_X3_laneOn_l6 {z : Sh9} {N : Nv9} {X : Cx9} {out : Out9 × Mem9} (C : OK9 z N X out 3 (co9 out.1) cX3_laneOn RX3 1 1 [])  : ∀ (n : Nat) (x0 : Nat) (x1 : Int32) (x2 : Int32) (M : Mem9), J9 z N X out 3 6 [(0, .ref x0), (1, .int x1), (2, .int x2)] [] M (0, 0) (fx9 (fun _ _ _ _ => none) (f_X3_laneOn_b6 z ) n x0 x1 x2 M) := by
  intro n
  induction n with
  | zero => intro x0 x1 x2 M; exact j_none
  | succ n ih => intro x0 x1 x2 M; exact t_X3_laneOn_b6 C  ih x0 x1 x2 M
def f_X3_laneOn (z : Sh9) (a0 : Nat) (M : Mem9) : Re9 :=
  ((ld9 z M 10 a0 (0 : Int32)).bind fun v1 => (fx9 (fun _ _ _ _ => none) (f_X3_laneOn_b6 z ) FU9 a0 v1 (0 : Int32) M))
set_option maxRecDepth 20000 in
set_option maxHeartbeats 4000000 in
theorem t_X3_laneOn {z : Sh9} {N : Nv9} {X : Cx9} {out : Out9 × Mem9} (C : OK9 z N X out 3 (co9 out.1) cX3_laneOn RX3 1 1 []) (a0 : Nat) (M : Mem9) : J9 z N X out 3 0 [(0, .ref a0)] [] M (0, 0) (f_X3_laneOn z a0 M) := by
  refine j_aload_n (pc := 0) C dX3_laneOn_0 rfl ?_
  refine j_iconst (pc := 1) C dX3_laneOn_1 (v := 0) rfl ?_
  refine j_iaload (pc := 2) C dX3_laneOn_2 (fun v1 => ?_)
  refine j_istore_n (pc := 3) C dX3_laneOn_3 (Nat.le_of_ble_eq_true rfl) (ls' := [(1, .int v1), (0, .ref a0)]) rfl ?_
  refine j_iconst (pc := 4) C dX3_laneOn_4 (v := 0) rfl ?_
  refine j_istore_n (pc := 5) C dX3_laneOn_5 (Nat.le_of_ble_eq_true rfl) (ls' := [(2, .int (0 : Int32)), (1, .int v1), (0, .ref a0)]) rfl ?_
  refine j_loc [2, 1, 0] rfl ?_
  exact t_X3_laneOn_l6 C  FU9 a0 v1 (0 : Int32) M
theorem sp_X3_laneOn {l : Launch} {z : Sh9} {N : Nv9} {a0 : Nat} {M : Mem9} {o : Out9 × Mem9} (hl : l.stackTraces = false) (h : f_X3_laneOn z a0 M = some o) : Sp9 l z N yX3_laneOn (Cond.code yX3_laneOn cX3_laneOn 3 (some .int)) 1 [.ref a0] M (co9 o.1) o :=
  sp9_of (rk := 1) (own := RX3) (by decide +kernel) rfl (Or.inr (Or.inl ⟨rfl, rfl⟩)) hl (Nat.le_of_ble_eq_true rfl) (fun X C => t_X3_laneOn C a0 M) h
def f_X3_loopOn_b12 (z : Sh9)  (x0 : Nat) (s0 : Int32) (s1 : Int32) (s2 : Int32) (s3 : Nat) (M : Mem9) : Re9 :=
  (bv9 (f_X3_lay z s3 s2 s1 s0 M) fun M2 => (bi9 (f_X3_sum z x0 (4 : Int32) M2) fun v4 M3 => (ri9 v4 M3)))
set_option maxRecDepth 20000 in
set_option maxHeartbeats 4000000 in
theorem t_X3_loopOn_b12 {z : Sh9} {N : Nv9} {X : Cx9} {out : Out9 × Mem9} (C : OK9 z N X out 3 (co9 out.1) cX3_loopOn RX3 2 1 [])  (x0 : Nat) (s0 : Int32) (s1 : Int32) (s2 : Int32) (s3 : Nat) (M : Mem9) : J9 z N X out 3 12 [(0, .ref x0)] [.int s0, .int s1, .int s2, .ref s3] M (0, 0) (f_X3_loopOn_b12 z  x0 s0 s1 s2 s3 M) := by
  refine j_callSv (pc := 12) C rfl dX3_loopOn_12 ls_X3_67 rfl (Nat.le_of_ble_eq_true rfl) (Nat.le_of_ble_eq_true rfl) (by decide) (Or.inl rfl) ⟨Nat.le_refl _, Nat.le_refl _⟩ (fun l hl o ho => sp_X3_lay hl ho) (fun M2 => ?_)
  refine j_aload_n (pc := 15) C dX3_loopOn_15 rfl ?_
  refine j_iconst (pc := 16) C dX3_loopOn_16 (v := 4) rfl ?_
  refine j_callSi (pc := 17) C rfl dX3_loopOn_17 ls_X3_118 rfl (Nat.le_of_ble_eq_true rfl) (Nat.le_of_ble_eq_true rfl) (by decide) (Or.inl rfl) ⟨Nat.le_refl _, Nat.le_refl _⟩ (fun l hl o ho => sp_X3_sum hl ho) (fun v4 M3 => ?_)
  exact j_ireturn (pc := 20) C rfl dX3_loopOn_20 ⟨Nat.zero_le _, Nat.zero_le _⟩
def f_X3_loopOn (z : Sh9) (a0 : Nat) (a1 : Int32) (a2 : Int32) (M : Mem9) : Re9 :=
  (if a2 = 0 then (f_X3_loopOn_b12 z  a0 (0 : Int32) (4 : Int32) a1 a0 M) else (f_X3_loopOn_b12 z  a0 (1 : Int32) (4 : Int32) a1 a0 M))
set_option maxRecDepth 20000 in
set_option maxHeartbeats 4000000 in
theorem t_X3_loopOn {z : Sh9} {N : Nv9} {X : Cx9} {out : Out9 × Mem9} (C : OK9 z N X out 3 (co9 out.1) cX3_loopOn RX3 2 1 []) (a0 : Nat) (a1 : Int32) (a2 : Int32) (M : Mem9) : J9 z N X out 3 0 [(0, .ref a0), (1, .int a1), (2, .int a2)] [] M (0, 0) (f_X3_loopOn z a0 a1 a2 M) := by
  refine j_aload_n (pc := 0) C dX3_loopOn_0 rfl ?_
  refine j_iload_n (pc := 1) C dX3_loopOn_1 rfl ?_
  refine j_iconst (pc := 2) C dX3_loopOn_2 (v := 4) rfl ?_
  refine j_iload_n (pc := 3) C dX3_loopOn_3 rfl ?_
  refine j_if_eq (pc := 4) C dX3_loopOn_4 (tgt := 11) (by decide) (fun hc1 => ?_) (fun hc1 => ?_)
  · refine j_iconst (pc := 11) C dX3_loopOn_11 (v := 0) rfl ?_
    refine j_loc [0] rfl ?_
    exact t_X3_loopOn_b12 C  a0 (0 : Int32) (4 : Int32) a1 a0 M
  · refine j_iconst (pc := 7) C dX3_loopOn_7 (v := 1) rfl ?_
    refine j_goto (pc := 8) C dX3_loopOn_8 (tgt := 12) (by decide) ?_
    refine j_loc [0] rfl ?_
    exact t_X3_loopOn_b12 C  a0 (1 : Int32) (4 : Int32) a1 a0 M
theorem sp_X3_loopOn {l : Launch} {z : Sh9} {N : Nv9} {a0 : Nat} {a1 : Int32} {a2 : Int32} {M : Mem9} {o : Out9 × Mem9} (hl : l.stackTraces = false) (h : f_X3_loopOn z a0 a1 a2 M = some o) : Sp9 l z N yX3_loopOn (Cond.code yX3_loopOn cX3_loopOn 3 (some .int)) 2 [.ref a0, .int a1, .int a2] M (co9 o.1) o :=
  sp9_of (rk := 1) (own := RX3) (by decide +kernel) rfl (Or.inr (Or.inl ⟨rfl, rfl⟩)) hl (Nat.le_of_ble_eq_true rfl) (fun X C => t_X3_loopOn C a0 a1 a2 M) h
def f_X3_mendOn (z : Sh9) (a0 : Nat) (a1 : Int32) (M : Mem9) : Re9 :=
  (bv9 (f_X3_lay z a0 a1 (5 : Int32) (0 : Int32) M) fun M1 => (bi9 (f_X3_of z a0 a1 (1 : Int32) M1) fun v3 M2 => (ri9 v3 M2)))
set_option maxRecDepth 20000 in
set_option maxHeartbeats 4000000 in
theorem t_X3_mendOn {z : Sh9} {N : Nv9} {X : Cx9} {out : Out9 × Mem9} (C : OK9 z N X out 2 (co9 out.1) cX3_mendOn RX3 1 1 []) (a0 : Nat) (a1 : Int32) (M : Mem9) : J9 z N X out 2 0 [(0, .ref a0), (1, .int a1)] [] M (0, 0) (f_X3_mendOn z a0 a1 M) := by
  refine j_aload_n (pc := 0) C dX3_mendOn_0 rfl ?_
  refine j_iload_n (pc := 1) C dX3_mendOn_1 rfl ?_
  refine j_iconst (pc := 2) C dX3_mendOn_2 (v := 5) rfl ?_
  refine j_iconst (pc := 3) C dX3_mendOn_3 (v := 0) rfl ?_
  refine j_callSv (pc := 4) C rfl dX3_mendOn_4 ls_X3_67 rfl (Nat.le_of_ble_eq_true rfl) (Nat.le_of_ble_eq_true rfl) (by decide) (Or.inl rfl) ⟨Nat.le_refl _, Nat.le_refl _⟩ (fun l hl o ho => sp_X3_lay hl ho) (fun M1 => ?_)
  refine j_aload_n (pc := 7) C dX3_mendOn_7 rfl ?_
  refine j_iload_n (pc := 8) C dX3_mendOn_8 rfl ?_
  refine j_iconst (pc := 9) C dX3_mendOn_9 (v := 1) rfl ?_
  refine j_callSi (pc := 10) C rfl dX3_mendOn_10 ls_X3_48 rfl (Nat.le_of_ble_eq_true rfl) (Nat.le_of_ble_eq_true rfl) (by decide) (Or.inl rfl) ⟨Nat.le_refl _, Nat.le_refl _⟩ (fun l hl o ho => sp_X3_of hl ho) (fun v3 M2 => ?_)
  exact j_ireturn (pc := 13) C rfl dX3_mendOn_13 ⟨Nat.zero_le _, Nat.zero_le _⟩
theorem sp_X3_mendOn {l : Launch} {z : Sh9} {N : Nv9} {a0 : Nat} {a1 : Int32} {M : Mem9} {o : Out9 × Mem9} (hl : l.stackTraces = false) (h : f_X3_mendOn z a0 a1 M = some o) : Sp9 l z N yX3_mendOn (Cond.code yX3_mendOn cX3_mendOn 2 (some .int)) 1 [.ref a0, .int a1] M (co9 o.1) o :=
  sp9_of (rk := 1) (own := RX3) (by decide +kernel) rfl (Or.inr (Or.inl ⟨rfl, rfl⟩)) hl (Nat.le_of_ble_eq_true rfl) (fun X C => t_X3_mendOn C a0 a1 M) h
def f_X3_sign_b32 (z : Sh9)  (x2 : Int32) (s0 : Int32) (s1 : Int32) (s2 : Nat) (M : Mem9) : Re9 :=
  ((pf9 z M s2 3 11 (s1 + s0)).bind fun M7 => (rz9 x2 M7))
set_option maxRecDepth 20000 in
set_option maxHeartbeats 4000000 in
theorem t_X3_sign_b32 {z : Sh9} {N : Nv9} {X : Cx9} {out : Out9 × Mem9} (C : OK9 z N X out 3 (co9 out.1) cX3_sign RX3 1 2 [])  (x2 : Int32) (s0 : Int32) (s1 : Int32) (s2 : Nat) (M : Mem9) : J9 z N X out 3 32 [(2, .int x2)] [.int s0, .int s1, .ref s2] M (0, 0) (f_X3_sign_b32 z  x2 s0 s1 s2 M) := by
  refine j_iadd (pc := 32) C dX3_sign_32 ?_
  refine j_putI (pc := 33) C dX3_sign_33 fl_X3_133 fi_X3_11 rfl rfl (fun M7 => ?_)
  refine j_iload_n (pc := 36) C dX3_sign_36 rfl ?_
  exact j_zreturn (pc := 37) C rfl dX3_sign_37 ⟨Nat.zero_le _, Nat.zero_le _⟩
def f_X3_sign_b17 (z : Sh9)  (x0 : Nat) (s0 : Int32) (M : Mem9) : Re9 :=
  ((gf9 z M x0 3 11).bind fun v5 => (if s0 = 0 then (f_X3_sign_b32 z  s0 (0 : Int32) v5 x0 M) else (f_X3_sign_b32 z  s0 (1 : Int32) v5 x0 M)))
set_option maxRecDepth 20000 in
set_option maxHeartbeats 4000000 in
theorem t_X3_sign_b17 {z : Sh9} {N : Nv9} {X : Cx9} {out : Out9 × Mem9} (C : OK9 z N X out 3 (co9 out.1) cX3_sign RX3 1 2 [])  (x0 : Nat) (s0 : Int32) (M : Mem9) : J9 z N X out 3 17 [(0, .ref x0)] [.int s0] M (0, 0) (f_X3_sign_b17 z  x0 s0 M) := by
  refine j_istore_n (pc := 17) C dX3_sign_17 (Nat.le_of_ble_eq_true rfl) (ls' := [(2, .int s0), (0, .ref x0)]) rfl ?_
  refine j_aload_n (pc := 18) C dX3_sign_18 rfl ?_
  refine j_dup (pc := 19) C dX3_sign_19 rfl ?_
  refine j_getI (pc := 20) C dX3_sign_20 fl_X3_133 fi_X3_11 (fun v5 => ?_)
  refine j_iload_n (pc := 23) C dX3_sign_23 rfl ?_
  refine j_if_eq (pc := 24) C dX3_sign_24 (tgt := 31) (by decide) (fun hc6 => ?_) (fun hc6 => ?_)
  · refine j_iconst (pc := 31) C dX3_sign_31 (v := 0) rfl ?_
    refine j_loc [0] rfl ?_
    exact t_X3_sign_b32 C  s0 (0 : Int32) v5 x0 M
  · refine j_iconst (pc := 27) C dX3_sign_27 (v := 1) rfl ?_
    refine j_goto (pc := 28) C dX3_sign_28 (tgt := 32) (by decide) ?_
    refine j_loc [0] rfl ?_
    exact t_X3_sign_b32 C  s0 (1 : Int32) v5 x0 M
def f_X3_sign (z : Sh9) (a0 : Nat) (a1 : Int32) (M : Mem9) : Re9 :=
  ((gf9 z M a0 3 11).bind fun v1 => (bi9 (iv9 z a0 3 (f_X3_at z a0 v1 M)) fun v3 M2 => (if v3 = a1 then (f_X3_sign_b17 z  a0 (1 : Int32) M2) else (f_X3_sign_b17 z  a0 (0 : Int32) M2))))
set_option maxRecDepth 20000 in
set_option maxHeartbeats 4000000 in
theorem t_X3_sign {z : Sh9} {N : Nv9} {X : Cx9} {out : Out9 × Mem9} (C : OK9 z N X out 3 (co9 out.1) cX3_sign RX3 1 2 []) (a0 : Nat) (a1 : Int32) (M : Mem9) : J9 z N X out 3 0 [(0, .ref a0), (1, .int a1)] [] M (0, 0) (f_X3_sign z a0 a1 M) := by
  refine j_aload_n (pc := 0) C dX3_sign_0 rfl ?_
  refine j_aload_n (pc := 1) C dX3_sign_1 rfl ?_
  refine j_getI (pc := 2) C dX3_sign_2 fl_X3_133 fi_X3_11 (fun v1 => ?_)
  refine j_callVi (pc := 5) C rfl dX3_sign_5 lv_X3_136 rfl (Nat.le_of_ble_eq_true rfl) (Nat.le_of_ble_eq_true rfl) (by decide) (Or.inl rfl) ⟨Nat.le_refl _, Nat.le_refl _⟩ (fun l hl o ho => sp_X3_at hl ho) (fun v3 M2 => ?_)
  refine j_iload_n (pc := 8) C dX3_sign_8 rfl ?_
  refine j_icmp_ne (pc := 9) C dX3_sign_9 (tgt := 16) (by decide) (fun hc4 => ?_) (fun hc4 => ?_)
  · refine j_iconst (pc := 16) C dX3_sign_16 (v := 0) rfl ?_
    refine j_loc [0] rfl ?_
    exact t_X3_sign_b17 C  a0 (0 : Int32) M2
  · refine j_iconst (pc := 12) C dX3_sign_12 (v := 1) rfl ?_
    refine j_goto (pc := 13) C dX3_sign_13 (tgt := 17) (by decide) ?_
    refine j_loc [0] rfl ?_
    exact t_X3_sign_b17 C  a0 (1 : Int32) M2
theorem sp_X3_sign {l : Launch} {z : Sh9} {N : Nv9} {a0 : Nat} {a1 : Int32} {M : Mem9} {o : Out9 × Mem9} (hl : l.stackTraces = false) (h : f_X3_sign z a0 a1 M = some o) : Sp9 l z N yX3_sign (Cond.code yX3_sign cX3_sign 3 (some .boolean)) 1 [.ref a0, .int a1] M (co9 o.1) o :=
  sp9_of (rk := 2) (own := RX3) (by decide +kernel) rfl (Or.inr (Or.inr (Or.inl ⟨rfl, rfl⟩))) hl (Nat.le_of_ble_eq_true rfl) (fun X C => t_X3_sign C a0 a1 M) h
def f_X3_readCommand_b335 (z : Sh9)  (s0 : Int32) (s1 : Nat) (M : Mem9) : Re9 :=
  (bi9 (iv9 z s1 3 (f_X3_done z s1 s0 M)) fun v59 M58 => (if v59 = 0 then (rz9 (0 : Int32) M58) else (rz9 (1 : Int32) M58)))
set_option maxRecDepth 20000 in
set_option maxHeartbeats 4000000 in
theorem t_X3_readCommand_b335 {z : Sh9} {N : Nv9} {X : Cx9} {out : Out9 × Mem9} (C : OK9 z N X out 7 (co9 out.1) cX3_readCommand RX3 8 2 [])  (s0 : Int32) (s1 : Nat) (M : Mem9) : J9 z N X out 7 335 [] [.int s0, .ref s1] M (0, 0) (f_X3_readCommand_b335 z  s0 s1 M) := by
  refine j_callVi (pc := 335) C rfl dX3_readCommand_335 lv_X3_149 rfl (Nat.le_of_ble_eq_true rfl) (Nat.le_of_ble_eq_true rfl) (by decide) (Or.inl rfl) ⟨Nat.le_refl _, Nat.le_refl _⟩ (fun l hl o ho => sp_X3_done hl ho) (fun v59 M58 => ?_)
  refine j_if_eq (pc := 338) C dX3_readCommand_338 (tgt := 345) (by decide) (fun hc60 => ?_) (fun hc60 => ?_)
  · refine j_iconst (pc := 345) C dX3_readCommand_345 (v := 0) rfl ?_
    exact j_zreturn (pc := 346) C rfl dX3_readCommand_346 ⟨Nat.zero_le _, Nat.zero_le _⟩
  · refine j_iconst (pc := 341) C dX3_readCommand_341 (v := 1) rfl ?_
    refine j_goto (pc := 342) C dX3_readCommand_342 (tgt := 346) (by decide) ?_
    exact j_zreturn (pc := 346) C rfl dX3_readCommand_346 ⟨Nat.zero_le _, Nat.zero_le _⟩
def f_X3_readCommand_b293 (z : Sh9)  (s0 : Int32) (s1 : Nat) (M : Mem9) : Re9 :=
  (bi9 (iv9 z s1 3 (f_X3_done z s1 s0 M)) fun v56 M55 => (if v56 = 0 then (rz9 (0 : Int32) M55) else (rz9 (1 : Int32) M55)))
set_option maxRecDepth 20000 in
set_option maxHeartbeats 4000000 in
theorem t_X3_readCommand_b293 {z : Sh9} {N : Nv9} {X : Cx9} {out : Out9 × Mem9} (C : OK9 z N X out 7 (co9 out.1) cX3_readCommand RX3 8 2 [])  (s0 : Int32) (s1 : Nat) (M : Mem9) : J9 z N X out 7 293 [] [.int s0, .ref s1] M (0, 0) (f_X3_readCommand_b293 z  s0 s1 M) := by
  refine j_callVi (pc := 293) C rfl dX3_readCommand_293 lv_X3_149 rfl (Nat.le_of_ble_eq_true rfl) (Nat.le_of_ble_eq_true rfl) (by decide) (Or.inl rfl) ⟨Nat.le_refl _, Nat.le_refl _⟩ (fun l hl o ho => sp_X3_done hl ho) (fun v56 M55 => ?_)
  refine j_if_eq (pc := 296) C dX3_readCommand_296 (tgt := 303) (by decide) (fun hc57 => ?_) (fun hc57 => ?_)
  · refine j_iconst (pc := 303) C dX3_readCommand_303 (v := 0) rfl ?_
    exact j_zreturn (pc := 304) C rfl dX3_readCommand_304 ⟨Nat.zero_le _, Nat.zero_le _⟩
  · refine j_iconst (pc := 299) C dX3_readCommand_299 (v := 1) rfl ?_
    refine j_goto (pc := 300) C dX3_readCommand_300 (tgt := 304) (by decide) ?_
    exact j_zreturn (pc := 304) C rfl dX3_readCommand_304 ⟨Nat.zero_le _, Nat.zero_le _⟩
def f_X3_readCommand_b292 (z : Sh9)  (s0 : Nat) (M : Mem9) : Re9 :=
  (f_X3_readCommand_b293 z  (0 : Int32) s0 M)
set_option maxRecDepth 20000 in
set_option maxHeartbeats 4000000 in
theorem t_X3_readCommand_b292 {z : Sh9} {N : Nv9} {X : Cx9} {out : Out9 × Mem9} (C : OK9 z N X out 7 (co9 out.1) cX3_readCommand RX3 8 2 [])  (s0 : Nat) (M : Mem9) : J9 z N X out 7 292 [] [.ref s0] M (0, 0) (f_X3_readCommand_b292 z  s0 M) := by
  refine j_iconst (pc := 292) C dX3_readCommand_292 (v := 0) rfl ?_
  exact t_X3_readCommand_b293 C  (0 : Int32) s0 M
def f_X3_readCommand_b245 (z : Sh9)  (s0 : Int32) (s1 : Nat) (M : Mem9) : Re9 :=
  (bi9 (iv9 z s1 3 (f_X3_done z s1 s0 M)) fun v51 M50 => (if v51 = 0 then (rz9 (0 : Int32) M50) else (rz9 (1 : Int32) M50)))
set_option maxRecDepth 20000 in
set_option maxHeartbeats 4000000 in
theorem t_X3_readCommand_b245 {z : Sh9} {N : Nv9} {X : Cx9} {out : Out9 × Mem9} (C : OK9 z N X out 7 (co9 out.1) cX3_readCommand RX3 8 2 [])  (s0 : Int32) (s1 : Nat) (M : Mem9) : J9 z N X out 7 245 [] [.int s0, .ref s1] M (0, 0) (f_X3_readCommand_b245 z  s0 s1 M) := by
  refine j_callVi (pc := 245) C rfl dX3_readCommand_245 lv_X3_149 rfl (Nat.le_of_ble_eq_true rfl) (Nat.le_of_ble_eq_true rfl) (by decide) (Or.inl rfl) ⟨Nat.le_refl _, Nat.le_refl _⟩ (fun l hl o ho => sp_X3_done hl ho) (fun v51 M50 => ?_)
  refine j_if_eq (pc := 248) C dX3_readCommand_248 (tgt := 255) (by decide) (fun hc52 => ?_) (fun hc52 => ?_)
  · refine j_iconst (pc := 255) C dX3_readCommand_255 (v := 0) rfl ?_
    exact j_zreturn (pc := 256) C rfl dX3_readCommand_256 ⟨Nat.zero_le _, Nat.zero_le _⟩
  · refine j_iconst (pc := 251) C dX3_readCommand_251 (v := 1) rfl ?_
    refine j_goto (pc := 252) C dX3_readCommand_252 (tgt := 256) (by decide) ?_
    exact j_zreturn (pc := 256) C rfl dX3_readCommand_256 ⟨Nat.zero_le _, Nat.zero_le _⟩
def f_X3_readCommand_b244 (z : Sh9)  (s0 : Nat) (M : Mem9) : Re9 :=
  (f_X3_readCommand_b245 z  (0 : Int32) s0 M)
set_option maxRecDepth 20000 in
set_option maxHeartbeats 4000000 in
theorem t_X3_readCommand_b244 {z : Sh9} {N : Nv9} {X : Cx9} {out : Out9 × Mem9} (C : OK9 z N X out 7 (co9 out.1) cX3_readCommand RX3 8 2 [])  (s0 : Nat) (M : Mem9) : J9 z N X out 7 244 [] [.ref s0] M (0, 0) (f_X3_readCommand_b244 z  s0 M) := by
  refine j_iconst (pc := 244) C dX3_readCommand_244 (v := 0) rfl ?_
  exact t_X3_readCommand_b245 C  (0 : Int32) s0 M
def f_X3_readCommand_b196 (z : Sh9)  (s0 : Int32) (s1 : Nat) (M : Mem9) : Re9 :=
  (bi9 (iv9 z s1 3 (f_X3_done z s1 s0 M)) fun v73 M72 => (if v73 = 0 then (rz9 (0 : Int32) M72) else (rz9 (1 : Int32) M72)))
set_option maxRecDepth 20000 in
set_option maxHeartbeats 4000000 in
theorem t_X3_readCommand_b196 {z : Sh9} {N : Nv9} {X : Cx9} {out : Out9 × Mem9} (C : OK9 z N X out 7 (co9 out.1) cX3_readCommand RX3 8 2 [])  (s0 : Int32) (s1 : Nat) (M : Mem9) : J9 z N X out 7 196 [] [.int s0, .ref s1] M (0, 0) (f_X3_readCommand_b196 z  s0 s1 M) := by
  refine j_callVi (pc := 196) C rfl dX3_readCommand_196 lv_X3_149 rfl (Nat.le_of_ble_eq_true rfl) (Nat.le_of_ble_eq_true rfl) (by decide) (Or.inl rfl) ⟨Nat.le_refl _, Nat.le_refl _⟩ (fun l hl o ho => sp_X3_done hl ho) (fun v73 M72 => ?_)
  refine j_if_eq (pc := 199) C dX3_readCommand_199 (tgt := 206) (by decide) (fun hc74 => ?_) (fun hc74 => ?_)
  · refine j_iconst (pc := 206) C dX3_readCommand_206 (v := 0) rfl ?_
    exact j_zreturn (pc := 207) C rfl dX3_readCommand_207 ⟨Nat.zero_le _, Nat.zero_le _⟩
  · refine j_iconst (pc := 202) C dX3_readCommand_202 (v := 1) rfl ?_
    refine j_goto (pc := 203) C dX3_readCommand_203 (tgt := 207) (by decide) ?_
    exact j_zreturn (pc := 207) C rfl dX3_readCommand_207 ⟨Nat.zero_le _, Nat.zero_le _⟩
def f_X3_readCommand_b195 (z : Sh9)  (s0 : Nat) (M : Mem9) : Re9 :=
  (f_X3_readCommand_b196 z  (0 : Int32) s0 M)
set_option maxRecDepth 20000 in
set_option maxHeartbeats 4000000 in
theorem t_X3_readCommand_b195 {z : Sh9} {N : Nv9} {X : Cx9} {out : Out9 × Mem9} (C : OK9 z N X out 7 (co9 out.1) cX3_readCommand RX3 8 2 [])  (s0 : Nat) (M : Mem9) : J9 z N X out 7 195 [] [.ref s0] M (0, 0) (f_X3_readCommand_b195 z  s0 M) := by
  refine j_iconst (pc := 195) C dX3_readCommand_195 (v := 0) rfl ?_
  exact t_X3_readCommand_b196 C  (0 : Int32) s0 M
def f_X3_readCommand_b158 (z : Sh9)  (x0 : Nat) (x1 : Nat) (x3 : Int32) (x4 : Int32) (x5 : Int32) (s0 : Int32) (M : Mem9) : Re9 :=
  (if x4 = (-1 : Int32) then (rz9 (0 : Int32) M) else (bi9 (f_X3_canArrive z x1 x3 x4 M) fun v66 M65 => (if v66 = 0 then (f_X3_readCommand_b195 z  x0 M65) else (bi9 (f_X3_arriveOn z x1 x3 x4 x5 s0 M65) fun v68 M67 => (if v68 ≤ 0 then (f_X3_readCommand_b195 z  x0 M67) else (f_X3_readCommand_b196 z  (1 : Int32) x0 M67))))))
set_option maxRecDepth 20000 in
set_option maxHeartbeats 4000000 in
theorem t_X3_readCommand_b158 {z : Sh9} {N : Nv9} {X : Cx9} {out : Out9 × Mem9} (C : OK9 z N X out 7 (co9 out.1) cX3_readCommand RX3 8 2 [])  (x0 : Nat) (x1 : Nat) (x3 : Int32) (x4 : Int32) (x5 : Int32) (s0 : Int32) (M : Mem9) : J9 z N X out 7 158 [(0, .ref x0), (1, .ref x1), (3, .int x3), (4, .int x4), (5, .int x5)] [.int s0] M (0, 0) (f_X3_readCommand_b158 z  x0 x1 x3 x4 x5 s0 M) := by
  refine j_istore (pc := 158) C dX3_readCommand_158 (Nat.le_of_ble_eq_true rfl) (ls' := [(6, .int s0), (0, .ref x0), (1, .ref x1), (3, .int x3), (4, .int x4), (5, .int x5)]) rfl ?_
  refine j_iload (pc := 160) C dX3_readCommand_160 rfl ?_
  refine j_iconst (pc := 162) C dX3_readCommand_162 (v := -1) rfl ?_
  refine j_icmp_eq (pc := 163) C dX3_readCommand_163 (tgt := 206) (by decide) (fun hc71 => ?_) (fun hc71 => ?_)
  · refine j_iconst (pc := 206) C dX3_readCommand_206 (v := 0) rfl ?_
    exact j_zreturn (pc := 207) C rfl dX3_readCommand_207 ⟨Nat.zero_le _, Nat.zero_le _⟩
  · refine j_aload_n (pc := 166) C dX3_readCommand_166 rfl ?_
    refine j_aload_n (pc := 167) C dX3_readCommand_167 rfl ?_
    refine j_iload_n (pc := 168) C dX3_readCommand_168 rfl ?_
    refine j_iload (pc := 169) C dX3_readCommand_169 rfl ?_
    refine j_callSi (pc := 171) C rfl dX3_readCommand_171 ls_X3_160 rfl (Nat.le_of_ble_eq_true rfl) (Nat.le_of_ble_eq_true rfl) (by decide) (Or.inl rfl) ⟨Nat.le_refl _, Nat.le_refl _⟩ (fun l hl o ho => sp_X3_canArrive hl ho) (fun v66 M65 => ?_)
    refine j_if_eq (pc := 174) C dX3_readCommand_174 (tgt := 195) (by decide) (fun hc70 => ?_) (fun hc70 => ?_)
    · refine j_loc [] rfl ?_
      exact t_X3_readCommand_b195 C  x0 M65
    · refine j_aload_n (pc := 177) C dX3_readCommand_177 rfl ?_
      refine j_iload_n (pc := 178) C dX3_readCommand_178 rfl ?_
      refine j_iload (pc := 179) C dX3_readCommand_179 rfl ?_
      refine j_iload (pc := 181) C dX3_readCommand_181 rfl ?_
      refine j_iload (pc := 183) C dX3_readCommand_183 rfl ?_
      refine j_callSi (pc := 185) C rfl dX3_readCommand_185 ls_X3_163 rfl (Nat.le_of_ble_eq_true rfl) (Nat.le_of_ble_eq_true rfl) (by decide) (Or.inl rfl) ⟨Nat.le_refl _, Nat.le_refl _⟩ (fun l hl o ho => sp_X3_arriveOn hl ho) (fun v68 M67 => ?_)
      refine j_if_le (pc := 188) C dX3_readCommand_188 (tgt := 195) (by decide) (fun hc69 => ?_) (fun hc69 => ?_)
      · refine j_loc [] rfl ?_
        exact t_X3_readCommand_b195 C  x0 M67
      · refine j_iconst (pc := 191) C dX3_readCommand_191 (v := 1) rfl ?_
        refine j_goto (pc := 192) C dX3_readCommand_192 (tgt := 196) (by decide) ?_
        refine j_loc [] rfl ?_
        exact t_X3_readCommand_b196 C  (1 : Int32) x0 M67
def f_X3_readCommand_b157 (z : Sh9)  (x0 : Nat) (x1 : Nat) (x3 : Int32) (x4 : Int32) (x5 : Int32) (M : Mem9) : Re9 :=
  (f_X3_readCommand_b158 z  x0 x1 x3 x4 x5 (0 : Int32) M)
set_option maxRecDepth 20000 in
set_option maxHeartbeats 4000000 in
theorem t_X3_readCommand_b157 {z : Sh9} {N : Nv9} {X : Cx9} {out : Out9 × Mem9} (C : OK9 z N X out 7 (co9 out.1) cX3_readCommand RX3 8 2 [])  (x0 : Nat) (x1 : Nat) (x3 : Int32) (x4 : Int32) (x5 : Int32) (M : Mem9) : J9 z N X out 7 157 [(0, .ref x0), (1, .ref x1), (3, .int x3), (4, .int x4), (5, .int x5)] [] M (0, 0) (f_X3_readCommand_b157 z  x0 x1 x3 x4 x5 M) := by
  refine j_iconst (pc := 157) C dX3_readCommand_157 (v := 0) rfl ?_
  exact t_X3_readCommand_b158 C  x0 x1 x3 x4 x5 (0 : Int32) M
def f_X3_readCommand_b136 (z : Sh9)  (x0 : Nat) (x1 : Nat) (x3 : Int32) (x4 : Int32) (s0 : Int32) (M : Mem9) : Re9 :=
  (if x4 = (-1 : Int32) then (f_X3_readCommand_b157 z  x0 x1 x3 x4 s0 M) else (bi9 (iv9 z x0 3 (f_X3_sign z x0 (102 : Int32) M)) fun v62 M61 => (if v62 = 0 then (f_X3_readCommand_b157 z  x0 x1 x3 x4 s0 M61) else (f_X3_readCommand_b158 z  x0 x1 x3 x4 s0 (1 : Int32) M61))))
set_option maxRecDepth 20000 in
set_option maxHeartbeats 4000000 in
theorem t_X3_readCommand_b136 {z : Sh9} {N : Nv9} {X : Cx9} {out : Out9 × Mem9} (C : OK9 z N X out 7 (co9 out.1) cX3_readCommand RX3 8 2 [])  (x0 : Nat) (x1 : Nat) (x3 : Int32) (x4 : Int32) (s0 : Int32) (M : Mem9) : J9 z N X out 7 136 [(0, .ref x0), (1, .ref x1), (3, .int x3), (4, .int x4)] [.int s0] M (0, 0) (f_X3_readCommand_b136 z  x0 x1 x3 x4 s0 M) := by
  refine j_istore (pc := 136) C dX3_readCommand_136 (Nat.le_of_ble_eq_true rfl) (ls' := [(5, .int s0), (0, .ref x0), (1, .ref x1), (3, .int x3), (4, .int x4)]) rfl ?_
  refine j_iload (pc := 138) C dX3_readCommand_138 rfl ?_
  refine j_iconst (pc := 140) C dX3_readCommand_140 (v := -1) rfl ?_
  refine j_icmp_eq (pc := 141) C dX3_readCommand_141 (tgt := 157) (by decide) (fun hc64 => ?_) (fun hc64 => ?_)
  · refine j_loc [1, 2, 3, 4, 0] rfl ?_
    exact t_X3_readCommand_b157 C  x0 x1 x3 x4 s0 M
  · refine j_aload_n (pc := 144) C dX3_readCommand_144 rfl ?_
    refine j_bipush (pc := 145) C dX3_readCommand_145 (v := 102) rfl ?_
    refine j_callVi (pc := 147) C rfl dX3_readCommand_147 lv_X3_157 rfl (Nat.le_of_ble_eq_true rfl) (Nat.le_of_ble_eq_true rfl) (by decide) (Or.inl rfl) ⟨Nat.le_refl _, Nat.le_refl _⟩ (fun l hl o ho => sp_X3_sign hl ho) (fun v62 M61 => ?_)
    refine j_if_eq (pc := 150) C dX3_readCommand_150 (tgt := 157) (by decide) (fun hc63 => ?_) (fun hc63 => ?_)
    · refine j_loc [1, 2, 3, 4, 0] rfl ?_
      exact t_X3_readCommand_b157 C  x0 x1 x3 x4 s0 M61
    · refine j_iconst (pc := 153) C dX3_readCommand_153 (v := 1) rfl ?_
      refine j_goto (pc := 154) C dX3_readCommand_154 (tgt := 158) (by decide) ?_
      refine j_loc [1, 2, 3, 4, 0] rfl ?_
      exact t_X3_readCommand_b158 C  x0 x1 x3 x4 s0 (1 : Int32) M61
def f_X3_readCommand_b135 (z : Sh9)  (x0 : Nat) (x1 : Nat) (x3 : Int32) (x4 : Int32) (M : Mem9) : Re9 :=
  (f_X3_readCommand_b136 z  x0 x1 x3 x4 (0 : Int32) M)
set_option maxRecDepth 20000 in
set_option maxHeartbeats 4000000 in
theorem t_X3_readCommand_b135 {z : Sh9} {N : Nv9} {X : Cx9} {out : Out9 × Mem9} (C : OK9 z N X out 7 (co9 out.1) cX3_readCommand RX3 8 2 [])  (x0 : Nat) (x1 : Nat) (x3 : Int32) (x4 : Int32) (M : Mem9) : J9 z N X out 7 135 [(0, .ref x0), (1, .ref x1), (3, .int x3), (4, .int x4)] [] M (0, 0) (f_X3_readCommand_b135 z  x0 x1 x3 x4 M) := by
  refine j_iconst (pc := 135) C dX3_readCommand_135 (v := 0) rfl ?_
  exact t_X3_readCommand_b136 C  x0 x1 x3 x4 (0 : Int32) M
def f_X3_readCommand_b92 (z : Sh9)  (s0 : Int32) (s1 : Nat) (M : Mem9) : Re9 :=
  (bi9 (iv9 z s1 3 (f_X3_done z s1 s0 M)) fun v54 M53 => (rz9 v54 M53))
set_option maxRecDepth 20000 in
set_option maxHeartbeats 4000000 in
theorem t_X3_readCommand_b92 {z : Sh9} {N : Nv9} {X : Cx9} {out : Out9 × Mem9} (C : OK9 z N X out 7 (co9 out.1) cX3_readCommand RX3 8 2 [])  (s0 : Int32) (s1 : Nat) (M : Mem9) : J9 z N X out 7 92 [] [.int s0, .ref s1] M (0, 0) (f_X3_readCommand_b92 z  s0 s1 M) := by
  refine j_callVi (pc := 92) C rfl dX3_readCommand_92 lv_X3_149 rfl (Nat.le_of_ble_eq_true rfl) (Nat.le_of_ble_eq_true rfl) (by decide) (Or.inl rfl) ⟨Nat.le_refl _, Nat.le_refl _⟩ (fun l hl o ho => sp_X3_done hl ho) (fun v54 M53 => ?_)
  exact j_zreturn (pc := 95) C rfl dX3_readCommand_95 ⟨Nat.zero_le _, Nat.zero_le _⟩
def f_X3_readCommand_b91 (z : Sh9)  (s0 : Nat) (M : Mem9) : Re9 :=
  (f_X3_readCommand_b92 z  (0 : Int32) s0 M)
set_option maxRecDepth 20000 in
set_option maxHeartbeats 4000000 in
theorem t_X3_readCommand_b91 {z : Sh9} {N : Nv9} {X : Cx9} {out : Out9 × Mem9} (C : OK9 z N X out 7 (co9 out.1) cX3_readCommand RX3 8 2 [])  (s0 : Nat) (M : Mem9) : J9 z N X out 7 91 [] [.ref s0] M (0, 0) (f_X3_readCommand_b91 z  s0 M) := by
  refine j_iconst (pc := 91) C dX3_readCommand_91 (v := 0) rfl ?_
  exact t_X3_readCommand_b92 C  (0 : Int32) s0 M
def f_X3_readCommand (z : Sh9) (a0 : Nat) (a1 : Nat) (M : Mem9) : Re9 :=
  ((rf9 z a0 3 1).bind fun v1 => ((gf9 z M a0 3 11).bind fun v2 => ((ld9 z M 10 v1 v2).bind fun v3 => ((gf9 z M a0 3 11).bind fun v4 => ((pf9 z M a0 3 11 (v4 + (1 : Int32))).bind fun M5 => (if v3 = (98 : Int32) then (bi9 (iv9 z a0 3 (f_X3_figures z a0 (0 : Int32) (1 : Int32) (0 : Int32) (2 : Int32) M5)) fun v7 M6 => (if v7 = (-1 : Int32) then (rz9 (0 : Int32) M6) else (bi9 (f_X3_isLane z a1 v7 M6) fun v9 M8 => (if v9 = 0 then (f_X3_readCommand_b244 z  a0 M8) else (bi9 (f_X3_loopOn z a1 v7 (1 : Int32) M8) fun v11 M10 => (if v11 ≤ 0 then (f_X3_readCommand_b244 z  a0 M10) else (f_X3_readCommand_b245 z  (1 : Int32) a0 M10))))))) else (if v3 = (108 : Int32) then ((ld9 z M5 10 a1 (0 : Int32)).bind fun v16 => (if (3 : Int32) ≤ v16 then (f_X3_readCommand_b91 z  a0 M5) else (bi9 (f_X3_laneOn z a1 M5) fun v18 M17 => (if v18 < 0 then (f_X3_readCommand_b91 z  a0 M17) else (f_X3_readCommand_b92 z  (1 : Int32) a0 M17))))) else (if v3 = (109 : Int32) then (bi9 (iv9 z a0 3 (f_X3_figures z a0 (0 : Int32) (1 : Int32) (0 : Int32) (2 : Int32) M5)) fun v23 M22 => (if v23 = (-1 : Int32) then (rz9 (0 : Int32) M22) else (bi9 (f_X3_canMend z a1 v23 M22) fun v25 M24 => (if v25 = 0 then (f_X3_readCommand_b292 z  a0 M24) else (bi9 (f_X3_mendOn z a1 v23 M24) fun v27 M26 => (if v27 < 0 then (f_X3_readCommand_b292 z  a0 M26) else (f_X3_readCommand_b293 z  (1 : Int32) a0 M26))))))) else (if v3 = (116 : Int32) then (bi9 (iv9 z a0 3 (f_X3_figures z a0 (0 : Int32) (2 : Int32) (1 : Int32) (60 : Int32) M5)) fun v33 M32 => (if v33 = (-1 : Int32) then (rz9 (0 : Int32) M32) else (bi9 (iv9 z a0 3 (f_X3_runOn z a0 a1 v33 M32)) fun v35 M34 => (if v35 < 0 then (f_X3_readCommand_b335 z  (0 : Int32) a0 M34) else (f_X3_readCommand_b335 z  (1 : Int32) a0 M34))))) else (if v3 = (118 : Int32) then (bi9 (iv9 z a0 3 (f_X3_figures z a0 (0 : Int32) (1 : Int32) (0 : Int32) (2 : Int32) M5)) fun v40 M39 => (bi9 (iv9 z a0 3 (f_X3_figures z a0 v40 (2 : Int32) (2 : Int32) (12 : Int32) M39)) fun v42 M41 => (if v42 = (-1 : Int32) then (f_X3_readCommand_b135 z  a0 a1 v40 v42 M41) else (bi9 (iv9 z a0 3 (f_X3_sign z a0 (120 : Int32) M41)) fun v44 M43 => (if v44 = 0 then (f_X3_readCommand_b135 z  a0 a1 v40 v42 M43) else (f_X3_readCommand_b136 z  a0 a1 v40 v42 (1 : Int32) M43)))))) else ((gf9 z M5 a0 3 11).bind fun v48 => ((pf9 z M5 a0 3 11 (v48 - (1 : Int32))).bind fun M49 => (rz9 (0 : Int32) M49)))))))))))))
set_option maxRecDepth 20000 in
set_option maxHeartbeats 4000000 in
theorem t_X3_readCommand {z : Sh9} {N : Nv9} {X : Cx9} {out : Out9 × Mem9} (C : OK9 z N X out 7 (co9 out.1) cX3_readCommand RX3 8 2 []) (a0 : Nat) (a1 : Nat) (M : Mem9) : J9 z N X out 7 0 [(0, .ref a0), (1, .ref a1)] [] M (0, 0) (f_X3_readCommand z a0 a1 M) := by
  refine j_aload_n (pc := 0) C dX3_readCommand_0 rfl ?_
  refine j_getR (pc := 1) C dX3_readCommand_1 fl_X3_7 fr_X3_1 (fun v1 => ?_)
  refine j_aload_n (pc := 4) C dX3_readCommand_4 rfl ?_
  refine j_getI (pc := 5) C dX3_readCommand_5 fl_X3_133 fi_X3_11 (fun v2 => ?_)
  refine j_iaload (pc := 8) C dX3_readCommand_8 (fun v3 => ?_)
  refine j_istore_n (pc := 9) C dX3_readCommand_9 (Nat.le_of_ble_eq_true rfl) (ls' := [(2, .int v3), (0, .ref a0), (1, .ref a1)]) rfl ?_
  refine j_aload_n (pc := 10) C dX3_readCommand_10 rfl ?_
  refine j_dup (pc := 11) C dX3_readCommand_11 rfl ?_
  refine j_getI (pc := 12) C dX3_readCommand_12 fl_X3_133 fi_X3_11 (fun v4 => ?_)
  refine j_iconst (pc := 15) C dX3_readCommand_15 (v := 1) rfl ?_
  refine j_iadd (pc := 16) C dX3_readCommand_16 ?_
  refine j_putI (pc := 17) C dX3_readCommand_17 fl_X3_133 fi_X3_11 rfl rfl (fun M5 => ?_)
  refine j_iload_n (pc := 20) C dX3_readCommand_20 rfl ?_
  refine j_ite (fun hc15 => ?_) (fun hc15 => ?_)
  · refine j_lookup (pc := 21) C dX3_readCommand_21 (by decide +kernel) (off := 187) (by rw [hc15]; rfl) (tgt := 208) (by decide) ?_
    refine j_aload_n (pc := 208) C dX3_readCommand_208 rfl ?_
    refine j_iconst (pc := 209) C dX3_readCommand_209 (v := 0) rfl ?_
    refine j_iconst (pc := 210) C dX3_readCommand_210 (v := 1) rfl ?_
    refine j_iconst (pc := 211) C dX3_readCommand_211 (v := 0) rfl ?_
    refine j_iconst (pc := 212) C dX3_readCommand_212 (v := 2) rfl ?_
    refine j_callVi (pc := 213) C rfl dX3_readCommand_213 lv_X3_153 rfl (Nat.le_of_ble_eq_true rfl) (Nat.le_of_ble_eq_true rfl) (by decide) (Or.inl rfl) ⟨Nat.le_refl _, Nat.le_refl _⟩ (fun l hl o ho => sp_X3_figures hl ho) (fun v7 M6 => ?_)
    refine j_istore_n (pc := 216) C dX3_readCommand_216 (Nat.le_of_ble_eq_true rfl) (ls' := [(3, .int v7), (2, .int v3), (0, .ref a0), (1, .ref a1)]) rfl ?_
    refine j_iload_n (pc := 217) C dX3_readCommand_217 rfl ?_
    refine j_iconst (pc := 218) C dX3_readCommand_218 (v := -1) rfl ?_
    refine j_icmp_eq (pc := 219) C dX3_readCommand_219 (tgt := 255) (by decide) (fun hc14 => ?_) (fun hc14 => ?_)
    · refine j_iconst (pc := 255) C dX3_readCommand_255 (v := 0) rfl ?_
      exact j_zreturn (pc := 256) C rfl dX3_readCommand_256 ⟨Nat.zero_le _, Nat.zero_le _⟩
    · refine j_aload_n (pc := 222) C dX3_readCommand_222 rfl ?_
      refine j_aload_n (pc := 223) C dX3_readCommand_223 rfl ?_
      refine j_iload_n (pc := 224) C dX3_readCommand_224 rfl ?_
      refine j_callSi (pc := 225) C rfl dX3_readCommand_225 ls_X3_44 rfl (Nat.le_of_ble_eq_true rfl) (Nat.le_of_ble_eq_true rfl) (by decide) (Or.inl rfl) ⟨Nat.le_refl _, Nat.le_refl _⟩ (fun l hl o ho => sp_X3_isLane hl ho) (fun v9 M8 => ?_)
      refine j_if_eq (pc := 228) C dX3_readCommand_228 (tgt := 244) (by decide) (fun hc13 => ?_) (fun hc13 => ?_)
      · refine j_loc [] rfl ?_
        exact t_X3_readCommand_b244 C  a0 M8
      · refine j_aload_n (pc := 231) C dX3_readCommand_231 rfl ?_
        refine j_iload_n (pc := 232) C dX3_readCommand_232 rfl ?_
        refine j_iconst (pc := 233) C dX3_readCommand_233 (v := 1) rfl ?_
        refine j_callSi (pc := 234) C rfl dX3_readCommand_234 ls_X3_167 rfl (Nat.le_of_ble_eq_true rfl) (Nat.le_of_ble_eq_true rfl) (by decide) (Or.inl rfl) ⟨Nat.le_refl _, Nat.le_refl _⟩ (fun l hl o ho => sp_X3_loopOn hl ho) (fun v11 M10 => ?_)
        refine j_if_le (pc := 237) C dX3_readCommand_237 (tgt := 244) (by decide) (fun hc12 => ?_) (fun hc12 => ?_)
        · refine j_loc [] rfl ?_
          exact t_X3_readCommand_b244 C  a0 M10
        · refine j_iconst (pc := 240) C dX3_readCommand_240 (v := 1) rfl ?_
          refine j_goto (pc := 241) C dX3_readCommand_241 (tgt := 245) (by decide) ?_
          refine j_loc [] rfl ?_
          exact t_X3_readCommand_b245 C  (1 : Int32) a0 M10
  · refine j_ite (fun hc21 => ?_) (fun hc21 => ?_)
    · refine j_lookup (pc := 21) C dX3_readCommand_21 (by decide +kernel) (off := 51) (by rw [hc21]; rfl) (tgt := 72) (by decide) ?_
      refine j_aload_n (pc := 72) C dX3_readCommand_72 rfl ?_
      refine j_aload_n (pc := 73) C dX3_readCommand_73 rfl ?_
      refine j_iconst (pc := 74) C dX3_readCommand_74 (v := 0) rfl ?_
      refine j_iaload (pc := 75) C dX3_readCommand_75 (fun v16 => ?_)
      refine j_iconst (pc := 76) C dX3_readCommand_76 (v := 3) rfl ?_
      refine j_icmp_ge (pc := 77) C dX3_readCommand_77 (tgt := 91) (by decide) (fun hc20 => ?_) (fun hc20 => ?_)
      · refine j_loc [] rfl ?_
        exact t_X3_readCommand_b91 C  a0 M5
      · refine j_aload_n (pc := 80) C dX3_readCommand_80 rfl ?_
        refine j_callSi (pc := 81) C rfl dX3_readCommand_81 ls_X3_145 rfl (Nat.le_of_ble_eq_true rfl) (Nat.le_of_ble_eq_true rfl) (by decide) (Or.inl rfl) ⟨Nat.le_refl _, Nat.le_refl _⟩ (fun l hl o ho => sp_X3_laneOn hl ho) (fun v18 M17 => ?_)
        refine j_if_lt (pc := 84) C dX3_readCommand_84 (tgt := 91) (by decide) (fun hc19 => ?_) (fun hc19 => ?_)
        · refine j_loc [] rfl ?_
          exact t_X3_readCommand_b91 C  a0 M17
        · refine j_iconst (pc := 87) C dX3_readCommand_87 (v := 1) rfl ?_
          refine j_goto (pc := 88) C dX3_readCommand_88 (tgt := 92) (by decide) ?_
          refine j_loc [] rfl ?_
          exact t_X3_readCommand_b92 C  (1 : Int32) a0 M17
    · refine j_ite (fun hc31 => ?_) (fun hc31 => ?_)
      · refine j_lookup (pc := 21) C dX3_readCommand_21 (by decide +kernel) (off := 236) (by rw [hc31]; rfl) (tgt := 257) (by decide) ?_
        refine j_aload_n (pc := 257) C dX3_readCommand_257 rfl ?_
        refine j_iconst (pc := 258) C dX3_readCommand_258 (v := 0) rfl ?_
        refine j_iconst (pc := 259) C dX3_readCommand_259 (v := 1) rfl ?_
        refine j_iconst (pc := 260) C dX3_readCommand_260 (v := 0) rfl ?_
        refine j_iconst (pc := 261) C dX3_readCommand_261 (v := 2) rfl ?_
        refine j_callVi (pc := 262) C rfl dX3_readCommand_262 lv_X3_153 rfl (Nat.le_of_ble_eq_true rfl) (Nat.le_of_ble_eq_true rfl) (by decide) (Or.inl rfl) ⟨Nat.le_refl _, Nat.le_refl _⟩ (fun l hl o ho => sp_X3_figures hl ho) (fun v23 M22 => ?_)
        refine j_istore_n (pc := 265) C dX3_readCommand_265 (Nat.le_of_ble_eq_true rfl) (ls' := [(3, .int v23), (2, .int v3), (0, .ref a0), (1, .ref a1)]) rfl ?_
        refine j_iload_n (pc := 266) C dX3_readCommand_266 rfl ?_
        refine j_iconst (pc := 267) C dX3_readCommand_267 (v := -1) rfl ?_
        refine j_icmp_eq (pc := 268) C dX3_readCommand_268 (tgt := 303) (by decide) (fun hc30 => ?_) (fun hc30 => ?_)
        · refine j_iconst (pc := 303) C dX3_readCommand_303 (v := 0) rfl ?_
          exact j_zreturn (pc := 304) C rfl dX3_readCommand_304 ⟨Nat.zero_le _, Nat.zero_le _⟩
        · refine j_aload_n (pc := 271) C dX3_readCommand_271 rfl ?_
          refine j_aload_n (pc := 272) C dX3_readCommand_272 rfl ?_
          refine j_iload_n (pc := 273) C dX3_readCommand_273 rfl ?_
          refine j_callSi (pc := 274) C rfl dX3_readCommand_274 ls_X3_171 rfl (Nat.le_of_ble_eq_true rfl) (Nat.le_of_ble_eq_true rfl) (by decide) (Or.inl rfl) ⟨Nat.le_refl _, Nat.le_refl _⟩ (fun l hl o ho => sp_X3_canMend hl ho) (fun v25 M24 => ?_)
          refine j_if_eq (pc := 277) C dX3_readCommand_277 (tgt := 292) (by decide) (fun hc29 => ?_) (fun hc29 => ?_)
          · refine j_loc [] rfl ?_
            exact t_X3_readCommand_b292 C  a0 M24
          · refine j_aload_n (pc := 280) C dX3_readCommand_280 rfl ?_
            refine j_iload_n (pc := 281) C dX3_readCommand_281 rfl ?_
            refine j_callSi (pc := 282) C rfl dX3_readCommand_282 ls_X3_174 rfl (Nat.le_of_ble_eq_true rfl) (Nat.le_of_ble_eq_true rfl) (by decide) (Or.inl rfl) ⟨Nat.le_refl _, Nat.le_refl _⟩ (fun l hl o ho => sp_X3_mendOn hl ho) (fun v27 M26 => ?_)
            refine j_if_lt (pc := 285) C dX3_readCommand_285 (tgt := 292) (by decide) (fun hc28 => ?_) (fun hc28 => ?_)
            · refine j_loc [] rfl ?_
              exact t_X3_readCommand_b292 C  a0 M26
            · refine j_iconst (pc := 288) C dX3_readCommand_288 (v := 1) rfl ?_
              refine j_goto (pc := 289) C dX3_readCommand_289 (tgt := 293) (by decide) ?_
              refine j_loc [] rfl ?_
              exact t_X3_readCommand_b293 C  (1 : Int32) a0 M26
      · refine j_ite (fun hc38 => ?_) (fun hc38 => ?_)
        · refine j_lookup (pc := 21) C dX3_readCommand_21 (by decide +kernel) (off := 284) (by rw [hc38]; rfl) (tgt := 305) (by decide) ?_
          refine j_aload_n (pc := 305) C dX3_readCommand_305 rfl ?_
          refine j_iconst (pc := 306) C dX3_readCommand_306 (v := 0) rfl ?_
          refine j_iconst (pc := 307) C dX3_readCommand_307 (v := 2) rfl ?_
          refine j_iconst (pc := 308) C dX3_readCommand_308 (v := 1) rfl ?_
          refine j_bipush (pc := 309) C dX3_readCommand_309 (v := 60) rfl ?_
          refine j_callVi (pc := 311) C rfl dX3_readCommand_311 lv_X3_153 rfl (Nat.le_of_ble_eq_true rfl) (Nat.le_of_ble_eq_true rfl) (by decide) (Or.inl rfl) ⟨Nat.le_refl _, Nat.le_refl _⟩ (fun l hl o ho => sp_X3_figures hl ho) (fun v33 M32 => ?_)
          refine j_istore_n (pc := 314) C dX3_readCommand_314 (Nat.le_of_ble_eq_true rfl) (ls' := [(3, .int v33), (2, .int v3), (0, .ref a0), (1, .ref a1)]) rfl ?_
          refine j_iload_n (pc := 315) C dX3_readCommand_315 rfl ?_
          refine j_iconst (pc := 316) C dX3_readCommand_316 (v := -1) rfl ?_
          refine j_icmp_eq (pc := 317) C dX3_readCommand_317 (tgt := 345) (by decide) (fun hc37 => ?_) (fun hc37 => ?_)
          · refine j_iconst (pc := 345) C dX3_readCommand_345 (v := 0) rfl ?_
            exact j_zreturn (pc := 346) C rfl dX3_readCommand_346 ⟨Nat.zero_le _, Nat.zero_le _⟩
          · refine j_aload_n (pc := 320) C dX3_readCommand_320 rfl ?_
            refine j_aload_n (pc := 321) C dX3_readCommand_321 rfl ?_
            refine j_aload_n (pc := 322) C dX3_readCommand_322 rfl ?_
            refine j_iload_n (pc := 323) C dX3_readCommand_323 rfl ?_
            refine j_callVi (pc := 324) C rfl dX3_readCommand_324 lv_X3_177 rfl (Nat.le_of_ble_eq_true rfl) (Nat.le_of_ble_eq_true rfl) (by decide) (Or.inl rfl) ⟨Nat.le_refl _, Nat.le_refl _⟩ (fun l hl o ho => sp_X3_runOn hl ho) (fun v35 M34 => ?_)
            refine j_if_lt (pc := 327) C dX3_readCommand_327 (tgt := 334) (by decide) (fun hc36 => ?_) (fun hc36 => ?_)
            · refine j_iconst (pc := 334) C dX3_readCommand_334 (v := 0) rfl ?_
              refine j_loc [] rfl ?_
              exact t_X3_readCommand_b335 C  (0 : Int32) a0 M34
            · refine j_iconst (pc := 330) C dX3_readCommand_330 (v := 1) rfl ?_
              refine j_goto (pc := 331) C dX3_readCommand_331 (tgt := 335) (by decide) ?_
              refine j_loc [] rfl ?_
              exact t_X3_readCommand_b335 C  (1 : Int32) a0 M34
        · refine j_ite (fun hc47 => ?_) (fun hc47 => ?_)
          · refine j_lookup (pc := 21) C dX3_readCommand_21 (by decide +kernel) (off := 75) (by rw [hc47]; rfl) (tgt := 96) (by decide) ?_
            refine j_aload_n (pc := 96) C dX3_readCommand_96 rfl ?_
            refine j_iconst (pc := 97) C dX3_readCommand_97 (v := 0) rfl ?_
            refine j_iconst (pc := 98) C dX3_readCommand_98 (v := 1) rfl ?_
            refine j_iconst (pc := 99) C dX3_readCommand_99 (v := 0) rfl ?_
            refine j_iconst (pc := 100) C dX3_readCommand_100 (v := 2) rfl ?_
            refine j_callVi (pc := 101) C rfl dX3_readCommand_101 lv_X3_153 rfl (Nat.le_of_ble_eq_true rfl) (Nat.le_of_ble_eq_true rfl) (by decide) (Or.inl rfl) ⟨Nat.le_refl _, Nat.le_refl _⟩ (fun l hl o ho => sp_X3_figures hl ho) (fun v40 M39 => ?_)
            refine j_istore_n (pc := 104) C dX3_readCommand_104 (Nat.le_of_ble_eq_true rfl) (ls' := [(3, .int v40), (2, .int v3), (0, .ref a0), (1, .ref a1)]) rfl ?_
            refine j_aload_n (pc := 105) C dX3_readCommand_105 rfl ?_
            refine j_iload_n (pc := 106) C dX3_readCommand_106 rfl ?_
            refine j_iconst (pc := 107) C dX3_readCommand_107 (v := 2) rfl ?_
            refine j_iconst (pc := 108) C dX3_readCommand_108 (v := 2) rfl ?_
            refine j_bipush (pc := 109) C dX3_readCommand_109 (v := 12) rfl ?_
            refine j_callVi (pc := 111) C rfl dX3_readCommand_111 lv_X3_153 rfl (Nat.le_of_ble_eq_true rfl) (Nat.le_of_ble_eq_true rfl) (by decide) (Or.inl rfl) ⟨Nat.le_refl _, Nat.le_refl _⟩ (fun l hl o ho => sp_X3_figures hl ho) (fun v42 M41 => ?_)
            refine j_istore (pc := 114) C dX3_readCommand_114 (Nat.le_of_ble_eq_true rfl) (ls' := [(4, .int v42), (3, .int v40), (2, .int v3), (0, .ref a0), (1, .ref a1)]) rfl ?_
            refine j_iload (pc := 116) C dX3_readCommand_116 rfl ?_
            refine j_iconst (pc := 118) C dX3_readCommand_118 (v := -1) rfl ?_
            refine j_icmp_eq (pc := 119) C dX3_readCommand_119 (tgt := 135) (by decide) (fun hc46 => ?_) (fun hc46 => ?_)
            · refine j_loc [3, 4, 1, 0] rfl ?_
              exact t_X3_readCommand_b135 C  a0 a1 v40 v42 M41
            · refine j_aload_n (pc := 122) C dX3_readCommand_122 rfl ?_
              refine j_bipush (pc := 123) C dX3_readCommand_123 (v := 120) rfl ?_
              refine j_callVi (pc := 125) C rfl dX3_readCommand_125 lv_X3_157 rfl (Nat.le_of_ble_eq_true rfl) (Nat.le_of_ble_eq_true rfl) (by decide) (Or.inl rfl) ⟨Nat.le_refl _, Nat.le_refl _⟩ (fun l hl o ho => sp_X3_sign hl ho) (fun v44 M43 => ?_)
              refine j_if_eq (pc := 128) C dX3_readCommand_128 (tgt := 135) (by decide) (fun hc45 => ?_) (fun hc45 => ?_)
              · refine j_loc [3, 4, 1, 0] rfl ?_
                exact t_X3_readCommand_b135 C  a0 a1 v40 v42 M43
              · refine j_iconst (pc := 131) C dX3_readCommand_131 (v := 1) rfl ?_
                refine j_goto (pc := 132) C dX3_readCommand_132 (tgt := 136) (by decide) ?_
                refine j_loc [3, 4, 1, 0] rfl ?_
                exact t_X3_readCommand_b136 C  a0 a1 v40 v42 (1 : Int32) M43
          · refine j_lookup (pc := 21) C dX3_readCommand_21 (by decide +kernel) (off := 326) ((lv_osw hc15 rfl).trans ((lv_osw hc21 rfl).trans ((lv_osw hc31 rfl).trans ((lv_osw hc38 rfl).trans ((lv_osw hc47 rfl).trans rfl))))) (tgt := 347) (by decide) ?_
            refine j_aload_n (pc := 347) C dX3_readCommand_347 rfl ?_
            refine j_dup (pc := 348) C dX3_readCommand_348 rfl ?_
            refine j_getI (pc := 349) C dX3_readCommand_349 fl_X3_133 fi_X3_11 (fun v48 => ?_)
            refine j_iconst (pc := 352) C dX3_readCommand_352 (v := 1) rfl ?_
            refine j_isub (pc := 353) C dX3_readCommand_353 ?_
            refine j_putI (pc := 354) C dX3_readCommand_354 fl_X3_133 fi_X3_11 rfl rfl (fun M49 => ?_)
            refine j_iconst (pc := 357) C dX3_readCommand_357 (v := 0) rfl ?_
            exact j_zreturn (pc := 358) C rfl dX3_readCommand_358 ⟨Nat.zero_le _, Nat.zero_le _⟩
theorem sp_X3_readCommand {l : Launch} {z : Sh9} {N : Nv9} {a0 : Nat} {a1 : Nat} {M : Mem9} {o : Out9 × Mem9} (hl : l.stackTraces = false) (h : f_X3_readCommand z a0 a1 M = some o) : Sp9 l z N yX3_readCommand (Cond.code yX3_readCommand cX3_readCommand 7 (some .boolean)) 8 [.ref a0, .ref a1] M (co9 o.1) o :=
  sp9_of (rk := 2) (own := RX3) (by decide +kernel) rfl (Or.inr (Or.inr (Or.inl ⟨rfl, rfl⟩))) hl (Nat.le_of_ble_eq_true rfl) (fun X C => t_X3_readCommand C a0 a1 M) h
def f_X3_readText_b31 (z : Sh9) (r31 : Nat → Nat → Mem9 → Re9) (x0 : Nat) (x1 : Nat) (M : Mem9) : Re9 :=
  ((gf9 z M x0 3 11).bind fun v8 => ((gf9 z M x0 3 2).bind fun v9 => (if v9 ≤ v8 then (ri9 (-1 : Int32) M) else (bi9 (iv9 z x0 3 (f_X3_readCommand z x0 x1 M)) fun v11 M10 => (if v11 = 0 then ((gf9 z M10 x0 3 11).bind fun v12 => (ri9 v12 M10)) else (r31 x0 x1 M10))))))
set_option maxRecDepth 20000 in
set_option maxHeartbeats 4000000 in
theorem t_X3_readText_b31 {z : Sh9} {N : Nv9} {X : Cx9} {out : Out9 × Mem9} (C : OK9 z N X out 2 (co9 out.1) cX3_readText RX3 9 1 []) {r31 : Nat → Nat → Mem9 → Re9} (h31 : ∀ (x0 : Nat) (x1 : Nat) (M : Mem9), J9 z N X out 2 31 [(0, .ref x0), (1, .ref x1)] [] M (0, 0) (r31 x0 x1 M)) (x0 : Nat) (x1 : Nat) (M : Mem9) : J9 z N X out 2 31 [(0, .ref x0), (1, .ref x1)] [] M (0, 0) (f_X3_readText_b31 z r31 x0 x1 M) := by
  refine j_aload_n (pc := 31) C dX3_readText_31 rfl ?_
  refine j_getI (pc := 32) C dX3_readText_32 fl_X3_133 fi_X3_11 (fun v8 => ?_)
  refine j_aload_n (pc := 35) C dX3_readText_35 rfl ?_
  refine j_getI (pc := 36) C dX3_readText_36 fl_X3_127 fi_X3_2 (fun v9 => ?_)
  refine j_icmp_ge (pc := 39) C dX3_readText_39 (tgt := 55) (by decide) (fun hc14 => ?_) (fun hc14 => ?_)
  · refine j_iconst (pc := 55) C dX3_readText_55 (v := -1) rfl ?_
    exact j_ireturn (pc := 56) C rfl dX3_readText_56 ⟨Nat.zero_le _, Nat.zero_le _⟩
  · refine j_aload_n (pc := 42) C dX3_readText_42 rfl ?_
    refine j_aload_n (pc := 43) C dX3_readText_43 rfl ?_
    refine j_callVi (pc := 44) C rfl dX3_readText_44 lv_X3_180 rfl (Nat.le_of_ble_eq_true rfl) (Nat.le_of_ble_eq_true rfl) (by decide) (Or.inl rfl) ⟨Nat.le_refl _, Nat.le_refl _⟩ (fun l hl o ho => sp_X3_readCommand hl ho) (fun v11 M10 => ?_)
    refine j_if_ne (pc := 47) C dX3_readText_47 (tgt := 31) (by decide) (fun hc13 => ?_) (fun hc13 => ?_)
    · exact h31 x0 x1 M10
    · refine j_aload_n (pc := 50) C dX3_readText_50 rfl ?_
      refine j_getI (pc := 51) C dX3_readText_51 fl_X3_133 fi_X3_11 (fun v12 => ?_)
      exact j_ireturn (pc := 54) C rfl dX3_readText_54 ⟨Nat.zero_le _, Nat.zero_le _⟩
theorem t_X3_readText_l31 {z : Sh9} {N : Nv9} {X : Cx9} {out : Out9 × Mem9} (C : OK9 z N X out 2 (co9 out.1) cX3_readText RX3 9 1 [])  : ∀ (n : Nat) (x0 : Nat) (x1 : Nat) (M : Mem9), J9 z N X out 2 31 [(0, .ref x0), (1, .ref x1)] [] M (0, 0) (fx9 (fun _ _ _ => none) (f_X3_readText_b31 z ) n x0 x1 M) := by
  intro n
  induction n with
  | zero => intro x0 x1 M; exact j_none
  | succ n ih => intro x0 x1 M; exact t_X3_readText_b31 C  ih x0 x1 M
def f_X3_readText (z : Sh9) (a0 : Nat) (a1 : Nat) (M : Mem9) : Re9 :=
  (bv9 (f_X3_clear z a1 M) fun M1 => ((pf9 z M1 a0 3 12 (0 : Int32)).bind fun M2 => ((pf9 z M2 a0 3 11 (0 : Int32)).bind fun M3 => (bi9 (iv9 z a0 3 (f_X3_at z a0 (0 : Int32) M3)) fun v5 M4 => (if v5 = (71 : Int32) then ((pf9 z M4 a0 3 11 (1 : Int32)).bind fun M6 => (fx9 (fun _ _ _ => none) (f_X3_readText_b31 z ) FU9 a0 a1 M6)) else (ri9 (0 : Int32) M4))))))
set_option maxRecDepth 20000 in
set_option maxHeartbeats 4000000 in
theorem t_X3_readText {z : Sh9} {N : Nv9} {X : Cx9} {out : Out9 × Mem9} (C : OK9 z N X out 2 (co9 out.1) cX3_readText RX3 9 1 []) (a0 : Nat) (a1 : Nat) (M : Mem9) : J9 z N X out 2 0 [(0, .ref a0), (1, .ref a1)] [] M (0, 0) (f_X3_readText z a0 a1 M) := by
  refine j_aload_n (pc := 0) C dX3_readText_0 rfl ?_
  refine j_callSv (pc := 1) C rfl dX3_readText_1 ls_X3_32 rfl (Nat.le_of_ble_eq_true rfl) (Nat.le_of_ble_eq_true rfl) (by decide) (Or.inl rfl) ⟨Nat.le_refl _, Nat.le_refl _⟩ (fun l hl o ho => sp_X3_clear hl ho) (fun M1 => ?_)
  refine j_aload_n (pc := 4) C dX3_readText_4 rfl ?_
  refine j_iconst (pc := 5) C dX3_readText_5 (v := 0) rfl ?_
  refine j_putI (pc := 6) C dX3_readText_6 fl_X3_142 fi_X3_12 rfl rfl (fun M2 => ?_)
  refine j_aload_n (pc := 9) C dX3_readText_9 rfl ?_
  refine j_iconst (pc := 10) C dX3_readText_10 (v := 0) rfl ?_
  refine j_putI (pc := 11) C dX3_readText_11 fl_X3_133 fi_X3_11 rfl rfl (fun M3 => ?_)
  refine j_aload_n (pc := 14) C dX3_readText_14 rfl ?_
  refine j_iconst (pc := 15) C dX3_readText_15 (v := 0) rfl ?_
  refine j_callVi (pc := 16) C rfl dX3_readText_16 lv_X3_136 rfl (Nat.le_of_ble_eq_true rfl) (Nat.le_of_ble_eq_true rfl) (by decide) (Or.inl rfl) ⟨Nat.le_refl _, Nat.le_refl _⟩ (fun l hl o ho => sp_X3_at hl ho) (fun v5 M4 => ?_)
  refine j_bipush (pc := 19) C dX3_readText_19 (v := 71) rfl ?_
  refine j_icmp_eq (pc := 21) C dX3_readText_21 (tgt := 26) (by decide) (fun hc7 => ?_) (fun hc7 => ?_)
  · refine j_aload_n (pc := 26) C dX3_readText_26 rfl ?_
    refine j_iconst (pc := 27) C dX3_readText_27 (v := 1) rfl ?_
    refine j_putI (pc := 28) C dX3_readText_28 fl_X3_133 fi_X3_11 rfl rfl (fun M6 => ?_)
    exact t_X3_readText_l31 C  FU9 a0 a1 M6
  · refine j_iconst (pc := 24) C dX3_readText_24 (v := 0) rfl ?_
    exact j_ireturn (pc := 25) C rfl dX3_readText_25 ⟨Nat.zero_le _, Nat.zero_le _⟩
theorem sp_X3_readText {l : Launch} {z : Sh9} {N : Nv9} {a0 : Nat} {a1 : Nat} {M : Mem9} {o : Out9 × Mem9} (hl : l.stackTraces = false) (h : f_X3_readText z a0 a1 M = some o) : Sp9 l z N yX3_readText (Cond.code yX3_readText cX3_readText 2 (some .int)) 9 [.ref a0, .ref a1] M (co9 o.1) o :=
  sp9_of (rk := 1) (own := RX3) (by decide +kernel) rfl (Or.inr (Or.inl ⟨rfl, rfl⟩)) hl (Nat.le_of_ble_eq_true rfl) (fun X C => t_X3_readText C a0 a1 M) h
def f_X3_errorPosition (z : Sh9) (a0 : Nat) (M : Mem9) : Re9 :=
  ((pf9 z M a0 3 0 (0 : Int32)).bind fun M1 => ((rf9 z a0 3 3).bind fun v2 => (bi9 (iv9 z a0 3 (f_X3_readText z a0 v2 M1)) fun v4 M3 => (ri9 v4 M3))))
set_option maxRecDepth 20000 in
set_option maxHeartbeats 4000000 in
theorem t_X3_errorPosition {z : Sh9} {N : Nv9} {X : Cx9} {out : Out9 × Mem9} (C : OK9 z N X out 1 (co9 out.1) cX3_errorPosition RX3 10 1 []) (a0 : Nat) (M : Mem9) : J9 z N X out 1 0 [(0, .ref a0)] [] M (0, 0) (f_X3_errorPosition z a0 M) := by
  refine j_aload_n (pc := 0) C dX3_errorPosition_0 rfl ?_
  refine j_iconst (pc := 1) C dX3_errorPosition_1 (v := 0) rfl ?_
  refine j_putI (pc := 2) C dX3_errorPosition_2 fl_X3_36 fi_X3_0 rfl rfl (fun M1 => ?_)
  refine j_aload_n (pc := 5) C dX3_errorPosition_5 rfl ?_
  refine j_aload_n (pc := 6) C dX3_errorPosition_6 rfl ?_
  refine j_getR (pc := 7) C dX3_errorPosition_7 fl_X3_16 fr_X3_4 (fun v2 => ?_)
  refine j_callVi (pc := 10) C rfl dX3_errorPosition_10 lv_X3_184 rfl (Nat.le_of_ble_eq_true rfl) (Nat.le_of_ble_eq_true rfl) (by decide) (Or.inl rfl) ⟨Nat.le_refl _, Nat.le_refl _⟩ (fun l hl o ho => sp_X3_readText hl ho) (fun v4 M3 => ?_)
  exact j_ireturn (pc := 13) C rfl dX3_errorPosition_13 ⟨Nat.zero_le _, Nat.zero_le _⟩
theorem sp_X3_errorPosition {l : Launch} {z : Sh9} {N : Nv9} {a0 : Nat} {M : Mem9} {o : Out9 × Mem9} (hl : l.stackTraces = false) (h : f_X3_errorPosition z a0 M = some o) : Sp9 l z N yX3_errorPosition (Cond.code yX3_errorPosition cX3_errorPosition 1 (some .int)) 10 [.ref a0] M (co9 o.1) o :=
  sp9_of (rk := 1) (own := RX3) (by decide +kernel) rfl (Or.inr (Or.inl ⟨rfl, rfl⟩)) hl (Nat.le_of_ble_eq_true rfl) (fun X C => t_X3_errorPosition C a0 M) h
def f_X3_hitsIn_b50 (z : Sh9) (r50 : Nat → Int32 → Int32 → Mem9 → Re9) (x0 : Nat) (x1 : Int32) (x2 : Int32) (M : Mem9) : Re9 :=
  (if (400 : Int32) < x2 then (ri9 (-1 : Int32) M) else ((rf9 z x0 3 2).bind fun v13 => (bi9 (f_X3_of z v13 x1 (5 : Int32) M) fun v15 M14 => (if v15 = 0 then ((rf9 z x0 3 3).bind fun v16 => (bv9 (iv9 z x0 3 (f_X3_tickOn z x0 v16 M14)) fun M17 => ((rf9 z x0 3 3).bind fun v18 => (bi9 (f_X3_of z v18 x1 (5 : Int32) M17) fun v20 M19 => (if v20 = (1 : Int32) then (ri9 x2 M19) else (r50 x0 x1 (x2 + (1 : Int32)) M19)))))) else (ri9 (-1 : Int32) M14)))))
set_option maxRecDepth 20000 in
set_option maxHeartbeats 4000000 in
theorem t_X3_hitsIn_b50 {z : Sh9} {N : Nv9} {X : Cx9} {out : Out9 × Mem9} (C : OK9 z N X out 3 (co9 out.1) cX3_hitsIn RX3 7 1 []) {r50 : Nat → Int32 → Int32 → Mem9 → Re9} (h50 : ∀ (x0 : Nat) (x1 : Int32) (x2 : Int32) (M : Mem9), J9 z N X out 3 50 [(0, .ref x0), (1, .int x1), (2, .int x2)] [] M (0, 0) (r50 x0 x1 x2 M)) (x0 : Nat) (x1 : Int32) (x2 : Int32) (M : Mem9) : J9 z N X out 3 50 [(0, .ref x0), (1, .int x1), (2, .int x2)] [] M (0, 0) (f_X3_hitsIn_b50 z r50 x0 x1 x2 M) := by
  refine j_iload_n (pc := 50) C dX3_hitsIn_50 rfl ?_
  refine j_sipush (pc := 51) C dX3_hitsIn_51 (v := 400) rfl ?_
  refine j_icmp_gt (pc := 54) C dX3_hitsIn_54 (tgt := 98) (by decide) (fun hc23 => ?_) (fun hc23 => ?_)
  · refine j_iconst (pc := 98) C dX3_hitsIn_98 (v := -1) rfl ?_
    exact j_ireturn (pc := 99) C rfl dX3_hitsIn_99 ⟨Nat.zero_le _, Nat.zero_le _⟩
  · refine j_aload_n (pc := 57) C dX3_hitsIn_57 rfl ?_
    refine j_getR (pc := 58) C dX3_hitsIn_58 fl_X3_13 fr_X3_3 (fun v13 => ?_)
    refine j_iload_n (pc := 61) C dX3_hitsIn_61 rfl ?_
    refine j_iconst (pc := 62) C dX3_hitsIn_62 (v := 5) rfl ?_
    refine j_callSi (pc := 63) C rfl dX3_hitsIn_63 ls_X3_48 rfl (Nat.le_of_ble_eq_true rfl) (Nat.le_of_ble_eq_true rfl) (by decide) (Or.inl rfl) ⟨Nat.le_refl _, Nat.le_refl _⟩ (fun l hl o ho => sp_X3_of hl ho) (fun v15 M14 => ?_)
    refine j_if_ne (pc := 66) C dX3_hitsIn_66 (tgt := 98) (by decide) (fun hc22 => ?_) (fun hc22 => ?_)
    · refine j_iconst (pc := 98) C dX3_hitsIn_98 (v := -1) rfl ?_
      exact j_ireturn (pc := 99) C rfl dX3_hitsIn_99 ⟨Nat.zero_le _, Nat.zero_le _⟩
    · refine j_aload_n (pc := 69) C dX3_hitsIn_69 rfl ?_
      refine j_aload_n (pc := 70) C dX3_hitsIn_70 rfl ?_
      refine j_getR (pc := 71) C dX3_hitsIn_71 fl_X3_16 fr_X3_4 (fun v16 => ?_)
      refine j_callVv (pc := 74) C rfl dX3_hitsIn_74 lv_X3_107 rfl (Nat.le_of_ble_eq_true rfl) (Nat.le_of_ble_eq_true rfl) (by decide) (Or.inl rfl) ⟨Nat.le_refl _, Nat.le_refl _⟩ (fun l hl o ho => sp_X3_tickOn hl ho) (fun M17 => ?_)
      refine j_aload_n (pc := 77) C dX3_hitsIn_77 rfl ?_
      refine j_getR (pc := 78) C dX3_hitsIn_78 fl_X3_16 fr_X3_4 (fun v18 => ?_)
      refine j_iload_n (pc := 81) C dX3_hitsIn_81 rfl ?_
      refine j_iconst (pc := 82) C dX3_hitsIn_82 (v := 5) rfl ?_
      refine j_callSi (pc := 83) C rfl dX3_hitsIn_83 ls_X3_48 rfl (Nat.le_of_ble_eq_true rfl) (Nat.le_of_ble_eq_true rfl) (by decide) (Or.inl rfl) ⟨Nat.le_refl _, Nat.le_refl _⟩ (fun l hl o ho => sp_X3_of hl ho) (fun v20 M19 => ?_)
      refine j_iconst (pc := 86) C dX3_hitsIn_86 (v := 1) rfl ?_
      refine j_icmp_ne (pc := 87) C dX3_hitsIn_87 (tgt := 92) (by decide) (fun hc21 => ?_) (fun hc21 => ?_)
      · refine j_iinc (pc := 92) C dX3_hitsIn_92 rfl (v := (x2 + (1 : Int32))) rfl (Nat.le_of_ble_eq_true rfl) (ls' := [(2, .int (x2 + (1 : Int32))), (0, .ref x0), (1, .int x1)]) rfl ?_
        refine j_goto (pc := 95) C dX3_hitsIn_95 (tgt := 50) (by decide) ?_
        refine j_loc [1, 2, 0] rfl ?_
        exact h50 x0 x1 (x2 + (1 : Int32)) M19
      · refine j_iload_n (pc := 90) C dX3_hitsIn_90 rfl ?_
        exact j_ireturn (pc := 91) C rfl dX3_hitsIn_91 ⟨Nat.zero_le _, Nat.zero_le _⟩
theorem t_X3_hitsIn_l50 {z : Sh9} {N : Nv9} {X : Cx9} {out : Out9 × Mem9} (C : OK9 z N X out 3 (co9 out.1) cX3_hitsIn RX3 7 1 [])  : ∀ (n : Nat) (x0 : Nat) (x1 : Int32) (x2 : Int32) (M : Mem9), J9 z N X out 3 50 [(0, .ref x0), (1, .int x1), (2, .int x2)] [] M (0, 0) (fx9 (fun _ _ _ _ => none) (f_X3_hitsIn_b50 z ) n x0 x1 x2 M) := by
  intro n
  induction n with
  | zero => intro x0 x1 x2 M; exact j_none
  | succ n ih => intro x0 x1 x2 M; exact t_X3_hitsIn_b50 C  ih x0 x1 x2 M
def f_X3_hitsIn_b17 (z : Sh9)  (x0 : Nat) (x1 : Int32) (s0 : Int32) (s1 : Nat) (M : Mem9) : Re9 :=
  (bi9 (iv9 z s1 3 (f_X3_refused z s1 s0 M)) fun v6 M5 => (if v6 = 0 then ((rf9 z x0 3 2).bind fun v7 => ((rf9 z x0 3 3).bind fun v8 => (bv9 (f_X3_copyState z v7 (0 : Int32) v8 (0 : Int32) M5) fun M9 => ((rf9 z x0 3 3).bind fun v10 => (bv9 (f_X3_lay z v10 x1 (4 : Int32) (1 : Int32) M9) fun M11 => (fx9 (fun _ _ _ _ => none) (f_X3_hitsIn_b50 z ) FU9 x0 x1 (1 : Int32) M11)))))) else (ri9 (0 : Int32) M5)))
set_option maxRecDepth 20000 in
set_option maxHeartbeats 4000000 in
theorem t_X3_hitsIn_b17 {z : Sh9} {N : Nv9} {X : Cx9} {out : Out9 × Mem9} (C : OK9 z N X out 3 (co9 out.1) cX3_hitsIn RX3 7 1 [])  (x0 : Nat) (x1 : Int32) (s0 : Int32) (s1 : Nat) (M : Mem9) : J9 z N X out 3 17 [(0, .ref x0), (1, .int x1)] [.int s0, .ref s1] M (0, 0) (f_X3_hitsIn_b17 z  x0 x1 s0 s1 M) := by
  refine j_callVi (pc := 17) C rfl dX3_hitsIn_17 lv_X3_130 rfl (Nat.le_of_ble_eq_true rfl) (Nat.le_of_ble_eq_true rfl) (by decide) (Or.inl rfl) ⟨Nat.le_refl _, Nat.le_refl _⟩ (fun l hl o ho => sp_X3_refused hl ho) (fun v6 M5 => ?_)
  refine j_if_eq (pc := 20) C dX3_hitsIn_20 (tgt := 25) (by decide) (fun hc12 => ?_) (fun hc12 => ?_)
  · refine j_aload_n (pc := 25) C dX3_hitsIn_25 rfl ?_
    refine j_getR (pc := 26) C dX3_hitsIn_26 fl_X3_13 fr_X3_3 (fun v7 => ?_)
    refine j_iconst (pc := 29) C dX3_hitsIn_29 (v := 0) rfl ?_
    refine j_aload_n (pc := 30) C dX3_hitsIn_30 rfl ?_
    refine j_getR (pc := 31) C dX3_hitsIn_31 fl_X3_16 fr_X3_4 (fun v8 => ?_)
    refine j_iconst (pc := 34) C dX3_hitsIn_34 (v := 0) rfl ?_
    refine j_callSv (pc := 35) C rfl dX3_hitsIn_35 ls_X3_187 rfl (Nat.le_of_ble_eq_true rfl) (Nat.le_of_ble_eq_true rfl) (by decide) (Or.inl rfl) ⟨Nat.le_refl _, Nat.le_refl _⟩ (fun l hl o ho => sp_X3_copyState hl ho) (fun M9 => ?_)
    refine j_aload_n (pc := 38) C dX3_hitsIn_38 rfl ?_
    refine j_getR (pc := 39) C dX3_hitsIn_39 fl_X3_16 fr_X3_4 (fun v10 => ?_)
    refine j_iload_n (pc := 42) C dX3_hitsIn_42 rfl ?_
    refine j_iconst (pc := 43) C dX3_hitsIn_43 (v := 4) rfl ?_
    refine j_iconst (pc := 44) C dX3_hitsIn_44 (v := 1) rfl ?_
    refine j_callSv (pc := 45) C rfl dX3_hitsIn_45 ls_X3_67 rfl (Nat.le_of_ble_eq_true rfl) (Nat.le_of_ble_eq_true rfl) (by decide) (Or.inl rfl) ⟨Nat.le_refl _, Nat.le_refl _⟩ (fun l hl o ho => sp_X3_lay hl ho) (fun M11 => ?_)
    refine j_iconst (pc := 48) C dX3_hitsIn_48 (v := 1) rfl ?_
    refine j_istore_n (pc := 49) C dX3_hitsIn_49 (Nat.le_of_ble_eq_true rfl) (ls' := [(2, .int (1 : Int32)), (0, .ref x0), (1, .int x1)]) rfl ?_
    refine j_loc [1, 2, 0] rfl ?_
    exact t_X3_hitsIn_l50 C  FU9 x0 x1 (1 : Int32) M11
  · refine j_iconst (pc := 23) C dX3_hitsIn_23 (v := 0) rfl ?_
    exact j_ireturn (pc := 24) C rfl dX3_hitsIn_24 ⟨Nat.zero_le _, Nat.zero_le _⟩
def f_X3_hitsIn (z : Sh9) (a0 : Nat) (a1 : Int32) (M : Mem9) : Re9 :=
  ((rf9 z a0 3 2).bind fun v1 => (bi9 (f_X3_isLane z v1 a1 M) fun v3 M2 => (if v3 = 0 then (f_X3_hitsIn_b17 z  a0 a1 (1 : Int32) a0 M2) else (f_X3_hitsIn_b17 z  a0 a1 (0 : Int32) a0 M2))))
set_option maxRecDepth 20000 in
set_option maxHeartbeats 4000000 in
theorem t_X3_hitsIn {z : Sh9} {N : Nv9} {X : Cx9} {out : Out9 × Mem9} (C : OK9 z N X out 3 (co9 out.1) cX3_hitsIn RX3 7 1 []) (a0 : Nat) (a1 : Int32) (M : Mem9) : J9 z N X out 3 0 [(0, .ref a0), (1, .int a1)] [] M (0, 0) (f_X3_hitsIn z a0 a1 M) := by
  refine j_aload_n (pc := 0) C dX3_hitsIn_0 rfl ?_
  refine j_aload_n (pc := 1) C dX3_hitsIn_1 rfl ?_
  refine j_getR (pc := 2) C dX3_hitsIn_2 fl_X3_13 fr_X3_3 (fun v1 => ?_)
  refine j_iload_n (pc := 5) C dX3_hitsIn_5 rfl ?_
  refine j_callSi (pc := 6) C rfl dX3_hitsIn_6 ls_X3_44 rfl (Nat.le_of_ble_eq_true rfl) (Nat.le_of_ble_eq_true rfl) (by decide) (Or.inl rfl) ⟨Nat.le_refl _, Nat.le_refl _⟩ (fun l hl o ho => sp_X3_isLane hl ho) (fun v3 M2 => ?_)
  refine j_if_eq (pc := 9) C dX3_hitsIn_9 (tgt := 16) (by decide) (fun hc4 => ?_) (fun hc4 => ?_)
  · refine j_iconst (pc := 16) C dX3_hitsIn_16 (v := 1) rfl ?_
    exact t_X3_hitsIn_b17 C  a0 a1 (1 : Int32) a0 M2
  · refine j_iconst (pc := 12) C dX3_hitsIn_12 (v := 0) rfl ?_
    refine j_goto (pc := 13) C dX3_hitsIn_13 (tgt := 17) (by decide) ?_
    exact t_X3_hitsIn_b17 C  a0 a1 (0 : Int32) a0 M2
theorem sp_X3_hitsIn {l : Launch} {z : Sh9} {N : Nv9} {a0 : Nat} {a1 : Int32} {M : Mem9} {o : Out9 × Mem9} (hl : l.stackTraces = false) (h : f_X3_hitsIn z a0 a1 M = some o) : Sp9 l z N yX3_hitsIn (Cond.code yX3_hitsIn cX3_hitsIn 3 (some .int)) 7 [.ref a0, .int a1] M (co9 o.1) o :=
  sp9_of (rk := 1) (own := RX3) (by decide +kernel) rfl (Or.inr (Or.inl ⟨rfl, rfl⟩)) hl (Nat.le_of_ble_eq_true rfl) (fun X C => t_X3_hitsIn C a0 a1 M) h
def f_X3_lane_b16 (z : Sh9)  (x0 : Nat) (s0 : Int32) (s1 : Nat) (M : Mem9) : Re9 :=
  (bi9 (iv9 z s1 3 (f_X3_refused z s1 s0 M)) fun v5 M4 => (if v5 = 0 then (bv9 (iv9 z x0 3 (f_X3_remember z x0  M4)) fun M6 => ((rf9 z x0 3 2).bind fun v7 => (bi9 (f_X3_laneOn z v7 M6) fun v9 M8 => (ri9 v9 M8)))) else (ri9 (0 : Int32) M4)))
set_option maxRecDepth 20000 in
set_option maxHeartbeats 4000000 in
theorem t_X3_lane_b16 {z : Sh9} {N : Nv9} {X : Cx9} {out : Out9 × Mem9} (C : OK9 z N X out 1 (co9 out.1) cX3_lane RX3 2 1 [])  (x0 : Nat) (s0 : Int32) (s1 : Nat) (M : Mem9) : J9 z N X out 1 16 [(0, .ref x0)] [.int s0, .ref s1] M (0, 0) (f_X3_lane_b16 z  x0 s0 s1 M) := by
  refine j_callVi (pc := 16) C rfl dX3_lane_16 lv_X3_130 rfl (Nat.le_of_ble_eq_true rfl) (Nat.le_of_ble_eq_true rfl) (by decide) (Or.inl rfl) ⟨Nat.le_refl _, Nat.le_refl _⟩ (fun l hl o ho => sp_X3_refused hl ho) (fun v5 M4 => ?_)
  refine j_if_eq (pc := 19) C dX3_lane_19 (tgt := 24) (by decide) (fun hc10 => ?_) (fun hc10 => ?_)
  · refine j_aload_n (pc := 24) C dX3_lane_24 rfl ?_
    refine j_callVv (pc := 25) C rfl dX3_lane_25 lv_X3_204 rfl (Nat.le_of_ble_eq_true rfl) (Nat.le_of_ble_eq_true rfl) (by decide) (Or.inl rfl) ⟨Nat.le_refl _, Nat.le_refl _⟩ (fun l hl o ho => sp_X3_remember hl ho) (fun M6 => ?_)
    refine j_aload_n (pc := 28) C dX3_lane_28 rfl ?_
    refine j_getR (pc := 29) C dX3_lane_29 fl_X3_13 fr_X3_3 (fun v7 => ?_)
    refine j_callSi (pc := 32) C rfl dX3_lane_32 ls_X3_145 rfl (Nat.le_of_ble_eq_true rfl) (Nat.le_of_ble_eq_true rfl) (by decide) (Or.inl rfl) ⟨Nat.le_refl _, Nat.le_refl _⟩ (fun l hl o ho => sp_X3_laneOn hl ho) (fun v9 M8 => ?_)
    exact j_ireturn (pc := 35) C rfl dX3_lane_35 ⟨Nat.zero_le _, Nat.zero_le _⟩
  · refine j_iconst (pc := 22) C dX3_lane_22 (v := 0) rfl ?_
    exact j_ireturn (pc := 23) C rfl dX3_lane_23 ⟨Nat.zero_le _, Nat.zero_le _⟩
def f_X3_lane (z : Sh9) (a0 : Nat) (M : Mem9) : Re9 :=
  ((rf9 z a0 3 2).bind fun v1 => ((ld9 z M 10 v1 (0 : Int32)).bind fun v2 => (if (3 : Int32) ≤ v2 then (f_X3_lane_b16 z  a0 (1 : Int32) a0 M) else (f_X3_lane_b16 z  a0 (0 : Int32) a0 M))))
set_option maxRecDepth 20000 in
set_option maxHeartbeats 4000000 in
theorem t_X3_lane {z : Sh9} {N : Nv9} {X : Cx9} {out : Out9 × Mem9} (C : OK9 z N X out 1 (co9 out.1) cX3_lane RX3 2 1 []) (a0 : Nat) (M : Mem9) : J9 z N X out 1 0 [(0, .ref a0)] [] M (0, 0) (f_X3_lane z a0 M) := by
  refine j_aload_n (pc := 0) C dX3_lane_0 rfl ?_
  refine j_aload_n (pc := 1) C dX3_lane_1 rfl ?_
  refine j_getR (pc := 2) C dX3_lane_2 fl_X3_13 fr_X3_3 (fun v1 => ?_)
  refine j_iconst (pc := 5) C dX3_lane_5 (v := 0) rfl ?_
  refine j_iaload (pc := 6) C dX3_lane_6 (fun v2 => ?_)
  refine j_iconst (pc := 7) C dX3_lane_7 (v := 3) rfl ?_
  refine j_icmp_ge (pc := 8) C dX3_lane_8 (tgt := 15) (by decide) (fun hc3 => ?_) (fun hc3 => ?_)
  · refine j_iconst (pc := 15) C dX3_lane_15 (v := 1) rfl ?_
    exact t_X3_lane_b16 C  a0 (1 : Int32) a0 M
  · refine j_iconst (pc := 11) C dX3_lane_11 (v := 0) rfl ?_
    refine j_goto (pc := 12) C dX3_lane_12 (tgt := 16) (by decide) ?_
    exact t_X3_lane_b16 C  a0 (0 : Int32) a0 M
theorem sp_X3_lane {l : Launch} {z : Sh9} {N : Nv9} {a0 : Nat} {M : Mem9} {o : Out9 × Mem9} (hl : l.stackTraces = false) (h : f_X3_lane z a0 M = some o) : Sp9 l z N yX3_lane (Cond.code yX3_lane cX3_lane 1 (some .int)) 2 [.ref a0] M (co9 o.1) o :=
  sp9_of (rk := 1) (own := RX3) (by decide +kernel) rfl (Or.inr (Or.inl ⟨rfl, rfl⟩)) hl (Nat.le_of_ble_eq_true rfl) (fun X C => t_X3_lane C a0 M) h
def f_X3_laneOf_b96 (z : Sh9) (r46 : Nat → Int32 → Int32 → Int32 → Int32 → Mem9 → Re9) (x0 : Nat) (x1 : Int32) (x2 : Int32) (x4 : Int32) (s0 : Int32) (s1 : Int32) (M : Mem9) : Re9 :=
  (nm9 (s1 + s0) fun (y27 : Int32) => (r46 x0 x1 x2 y27 (x4 + (1 : Int32)) M))
set_option maxRecDepth 20000 in
set_option maxHeartbeats 4000000 in
theorem t_X3_laneOf_b96 {z : Sh9} {N : Nv9} {X : Cx9} {out : Out9 × Mem9} (C : OK9 z N X out 5 (co9 out.1) cX3_laneOf RX3 2 1 []) {r46 : Nat → Int32 → Int32 → Int32 → Int32 → Mem9 → Re9} (h46 : ∀ (x0 : Nat) (x1 : Int32) (x2 : Int32) (x3 : Int32) (x4 : Int32) (M : Mem9), J9 z N X out 5 46 [(0, .ref x0), (1, .int x1), (2, .int x2), (3, .int x3), (4, .int x4)] [] M (0, 0) (r46 x0 x1 x2 x3 x4 M)) (x0 : Nat) (x1 : Int32) (x2 : Int32) (x4 : Int32) (s0 : Int32) (s1 : Int32) (M : Mem9) : J9 z N X out 5 96 [(0, .ref x0), (1, .int x1), (2, .int x2), (4, .int x4)] [.int s0, .int s1] M (0, 0) (f_X3_laneOf_b96 z r46 x0 x1 x2 x4 s0 s1 M) := by
  refine j_iadd (pc := 96) C dX3_laneOf_96 ?_
  refine j_nm (st' := fun x9 : Int32 => .int x9 :: []) rfl (fun y27 => ?_)
  refine j_istore_n (pc := 97) C dX3_laneOf_97 (Nat.le_of_ble_eq_true rfl) (ls' := [(3, .int y27), (0, .ref x0), (1, .int x1), (2, .int x2), (4, .int x4)]) rfl ?_
  refine j_iinc (pc := 98) C dX3_laneOf_98 rfl (v := (x4 + (1 : Int32))) rfl (Nat.le_of_ble_eq_true rfl) (ls' := [(4, .int (x4 + (1 : Int32))), (3, .int y27), (0, .ref x0), (1, .int x1), (2, .int x2)]) rfl ?_
  refine j_goto (pc := 101) C dX3_laneOf_101 (tgt := 46) (by decide) ?_
  refine j_loc [2, 3, 4, 1, 0] rfl ?_
  exact h46 x0 x1 x2 y27 (x4 + (1 : Int32)) M
def f_X3_laneOf_b95 (z : Sh9) (r46 : Nat → Int32 → Int32 → Int32 → Int32 → Mem9 → Re9) (x0 : Nat) (x1 : Int32) (x2 : Int32) (x4 : Int32) (s0 : Int32) (M : Mem9) : Re9 :=
  (f_X3_laneOf_b96 z r46 x0 x1 x2 x4 (0 : Int32) s0 M)
set_option maxRecDepth 20000 in
set_option maxHeartbeats 4000000 in
theorem t_X3_laneOf_b95 {z : Sh9} {N : Nv9} {X : Cx9} {out : Out9 × Mem9} (C : OK9 z N X out 5 (co9 out.1) cX3_laneOf RX3 2 1 []) {r46 : Nat → Int32 → Int32 → Int32 → Int32 → Mem9 → Re9} (h46 : ∀ (x0 : Nat) (x1 : Int32) (x2 : Int32) (x3 : Int32) (x4 : Int32) (M : Mem9), J9 z N X out 5 46 [(0, .ref x0), (1, .int x1), (2, .int x2), (3, .int x3), (4, .int x4)] [] M (0, 0) (r46 x0 x1 x2 x3 x4 M)) (x0 : Nat) (x1 : Int32) (x2 : Int32) (x4 : Int32) (s0 : Int32) (M : Mem9) : J9 z N X out 5 95 [(0, .ref x0), (1, .int x1), (2, .int x2), (4, .int x4)] [.int s0] M (0, 0) (f_X3_laneOf_b95 z r46 x0 x1 x2 x4 s0 M) := by
  refine j_iconst (pc := 95) C dX3_laneOf_95 (v := 0) rfl ?_
  exact t_X3_laneOf_b96 C h46 x0 x1 x2 x4 (0 : Int32) s0 M
def f_X3_laneOf_b46 (z : Sh9) (r46 : Nat → Int32 → Int32 → Int32 → Int32 → Mem9 → Re9) (x0 : Nat) (x1 : Int32) (x2 : Int32) (x3 : Int32) (x4 : Int32) (M : Mem9) : Re9 :=
  ((rf9 z x0 3 2).bind fun v11 => (bi9 (f_X3_of z v11 x1 (0 : Int32) M) fun v13 M12 => (if v13 ≤ x4 then (if (7 : Int32) ≤ x2 then (ri9 x3 M12) else ((rf9 z x0 3 2).bind fun v14 => (bi9 (f_X3_of z v14 x1 x2 M12) fun v16 M15 => (ri9 v16 M15)))) else ((rf9 z x0 3 2).bind fun v18 => (bi9 (f_X3_told z v18 x1 x4 (4 : Int32) M12) fun v20 M19 => (if v20 = 0 then ((rf9 z x0 3 2).bind fun v21 => (bi9 (f_X3_told z v21 x1 x4 (1 : Int32) M19) fun v23 M22 => (if (20 : Int32) ≤ v23 then (f_X3_laneOf_b95 z r46 x0 x1 x2 x4 x3 M22) else (f_X3_laneOf_b96 z r46 x0 x1 x2 x4 (1 : Int32) x3 M22)))) else (f_X3_laneOf_b95 z r46 x0 x1 x2 x4 x3 M19)))))))
set_option maxRecDepth 20000 in
set_option maxHeartbeats 4000000 in
theorem t_X3_laneOf_b46 {z : Sh9} {N : Nv9} {X : Cx9} {out : Out9 × Mem9} (C : OK9 z N X out 5 (co9 out.1) cX3_laneOf RX3 2 1 []) {r46 : Nat → Int32 → Int32 → Int32 → Int32 → Mem9 → Re9} (h46 : ∀ (x0 : Nat) (x1 : Int32) (x2 : Int32) (x3 : Int32) (x4 : Int32) (M : Mem9), J9 z N X out 5 46 [(0, .ref x0), (1, .int x1), (2, .int x2), (3, .int x3), (4, .int x4)] [] M (0, 0) (r46 x0 x1 x2 x3 x4 M)) (x0 : Nat) (x1 : Int32) (x2 : Int32) (x3 : Int32) (x4 : Int32) (M : Mem9) : J9 z N X out 5 46 [(0, .ref x0), (1, .int x1), (2, .int x2), (3, .int x3), (4, .int x4)] [] M (0, 0) (f_X3_laneOf_b46 z r46 x0 x1 x2 x3 x4 M) := by
  refine j_iload (pc := 46) C dX3_laneOf_46 rfl ?_
  refine j_aload_n (pc := 48) C dX3_laneOf_48 rfl ?_
  refine j_getR (pc := 49) C dX3_laneOf_49 fl_X3_13 fr_X3_3 (fun v11 => ?_)
  refine j_iload_n (pc := 52) C dX3_laneOf_52 rfl ?_
  refine j_iconst (pc := 53) C dX3_laneOf_53 (v := 0) rfl ?_
  refine j_callSi (pc := 54) C rfl dX3_laneOf_54 ls_X3_48 rfl (Nat.le_of_ble_eq_true rfl) (Nat.le_of_ble_eq_true rfl) (by decide) (Or.inl rfl) ⟨Nat.le_refl _, Nat.le_refl _⟩ (fun l hl o ho => sp_X3_of hl ho) (fun v13 M12 => ?_)
  refine j_icmp_ge (pc := 57) C dX3_laneOf_57 (tgt := 104) (by decide) (fun hc26 => ?_) (fun hc26 => ?_)
  · refine j_iload_n (pc := 104) C dX3_laneOf_104 rfl ?_
    refine j_bipush (pc := 105) C dX3_laneOf_105 (v := 7) rfl ?_
    refine j_icmp_ge (pc := 107) C dX3_laneOf_107 (tgt := 122) (by decide) (fun hc17 => ?_) (fun hc17 => ?_)
    · refine j_iload_n (pc := 122) C dX3_laneOf_122 rfl ?_
      exact j_ireturn (pc := 123) C rfl dX3_laneOf_123 ⟨Nat.zero_le _, Nat.zero_le _⟩
    · refine j_aload_n (pc := 110) C dX3_laneOf_110 rfl ?_
      refine j_getR (pc := 111) C dX3_laneOf_111 fl_X3_13 fr_X3_3 (fun v14 => ?_)
      refine j_iload_n (pc := 114) C dX3_laneOf_114 rfl ?_
      refine j_iload_n (pc := 115) C dX3_laneOf_115 rfl ?_
      refine j_callSi (pc := 116) C rfl dX3_laneOf_116 ls_X3_48 rfl (Nat.le_of_ble_eq_true rfl) (Nat.le_of_ble_eq_true rfl) (by decide) (Or.inl rfl) ⟨Nat.le_refl _, Nat.le_refl _⟩ (fun l hl o ho => sp_X3_of hl ho) (fun v16 M15 => ?_)
      refine j_goto (pc := 119) C dX3_laneOf_119 (tgt := 123) (by decide) ?_
      exact j_ireturn (pc := 123) C rfl dX3_laneOf_123 ⟨Nat.zero_le _, Nat.zero_le _⟩
  · refine j_iload_n (pc := 60) C dX3_laneOf_60 rfl ?_
    refine j_aload_n (pc := 61) C dX3_laneOf_61 rfl ?_
    refine j_getR (pc := 62) C dX3_laneOf_62 fl_X3_13 fr_X3_3 (fun v18 => ?_)
    refine j_iload_n (pc := 65) C dX3_laneOf_65 rfl ?_
    refine j_iload (pc := 66) C dX3_laneOf_66 rfl ?_
    refine j_iconst (pc := 68) C dX3_laneOf_68 (v := 4) rfl ?_
    refine j_callSi (pc := 69) C rfl dX3_laneOf_69 ls_X3_56 rfl (Nat.le_of_ble_eq_true rfl) (Nat.le_of_ble_eq_true rfl) (by decide) (Or.inl rfl) ⟨Nat.le_refl _, Nat.le_refl _⟩ (fun l hl o ho => sp_X3_told hl ho) (fun v20 M19 => ?_)
    refine j_if_ne (pc := 72) C dX3_laneOf_72 (tgt := 95) (by decide) (fun hc25 => ?_) (fun hc25 => ?_)
    · refine j_loc [0, 1, 2, 4] rfl ?_
      exact t_X3_laneOf_b95 C h46 x0 x1 x2 x4 x3 M19
    · refine j_aload_n (pc := 75) C dX3_laneOf_75 rfl ?_
      refine j_getR (pc := 76) C dX3_laneOf_76 fl_X3_13 fr_X3_3 (fun v21 => ?_)
      refine j_iload_n (pc := 79) C dX3_laneOf_79 rfl ?_
      refine j_iload (pc := 80) C dX3_laneOf_80 rfl ?_
      refine j_iconst (pc := 82) C dX3_laneOf_82 (v := 1) rfl ?_
      refine j_callSi (pc := 83) C rfl dX3_laneOf_83 ls_X3_56 rfl (Nat.le_of_ble_eq_true rfl) (Nat.le_of_ble_eq_true rfl) (by decide) (Or.inl rfl) ⟨Nat.le_refl _, Nat.le_refl _⟩ (fun l hl o ho => sp_X3_told hl ho) (fun v23 M22 => ?_)
      refine j_bipush (pc := 86) C dX3_laneOf_86 (v := 20) rfl ?_
      refine j_icmp_ge (pc := 88) C dX3_laneOf_88 (tgt := 95) (by decide) (fun hc24 => ?_) (fun hc24 => ?_)
      · refine j_loc [0, 1, 2, 4] rfl ?_
        exact t_X3_laneOf_b95 C h46 x0 x1 x2 x4 x3 M22
      · refine j_iconst (pc := 91) C dX3_laneOf_91 (v := 1) rfl ?_
        refine j_goto (pc := 92) C dX3_laneOf_92 (tgt := 96) (by decide) ?_
        refine j_loc [0, 1, 2, 4] rfl ?_
        exact t_X3_laneOf_b96 C h46 x0 x1 x2 x4 (1 : Int32) x3 M22
theorem t_X3_laneOf_l46 {z : Sh9} {N : Nv9} {X : Cx9} {out : Out9 × Mem9} (C : OK9 z N X out 5 (co9 out.1) cX3_laneOf RX3 2 1 [])  : ∀ (n : Nat) (x0 : Nat) (x1 : Int32) (x2 : Int32) (x3 : Int32) (x4 : Int32) (M : Mem9), J9 z N X out 5 46 [(0, .ref x0), (1, .int x1), (2, .int x2), (3, .int x3), (4, .int x4)] [] M (0, 0) (fx9 (fun _ _ _ _ _ _ => none) (f_X3_laneOf_b46 z ) n x0 x1 x2 x3 x4 M) := by
  intro n
  induction n with
  | zero => intro x0 x1 x2 x3 x4 M; exact j_none
  | succ n ih => intro x0 x1 x2 x3 x4 M; exact t_X3_laneOf_b46 C  ih x0 x1 x2 x3 x4 M
def f_X3_laneOf_b33 (z : Sh9)  (x0 : Nat) (x1 : Int32) (x2 : Int32) (s0 : Int32) (s1 : Nat) (M : Mem9) : Re9 :=
  (bi9 (iv9 z s1 3 (f_X3_refused z s1 s0 M)) fun v9 M8 => (if v9 = 0 then (fx9 (fun _ _ _ _ _ _ => none) (f_X3_laneOf_b46 z ) FU9 x0 x1 x2 (0 : Int32) (0 : Int32) M8) else (ri9 (0 : Int32) M8)))
set_option maxRecDepth 20000 in
set_option maxHeartbeats 4000000 in
theorem t_X3_laneOf_b33 {z : Sh9} {N : Nv9} {X : Cx9} {out : Out9 × Mem9} (C : OK9 z N X out 5 (co9 out.1) cX3_laneOf RX3 2 1 [])  (x0 : Nat) (x1 : Int32) (x2 : Int32) (s0 : Int32) (s1 : Nat) (M : Mem9) : J9 z N X out 5 33 [(0, .ref x0), (1, .int x1), (2, .int x2)] [.int s0, .ref s1] M (0, 0) (f_X3_laneOf_b33 z  x0 x1 x2 s0 s1 M) := by
  refine j_callVi (pc := 33) C rfl dX3_laneOf_33 lv_X3_130 rfl (Nat.le_of_ble_eq_true rfl) (Nat.le_of_ble_eq_true rfl) (by decide) (Or.inl rfl) ⟨Nat.le_refl _, Nat.le_refl _⟩ (fun l hl o ho => sp_X3_refused hl ho) (fun v9 M8 => ?_)
  refine j_if_eq (pc := 36) C dX3_laneOf_36 (tgt := 41) (by decide) (fun hc10 => ?_) (fun hc10 => ?_)
  · refine j_iconst (pc := 41) C dX3_laneOf_41 (v := 0) rfl ?_
    refine j_istore_n (pc := 42) C dX3_laneOf_42 (Nat.le_of_ble_eq_true rfl) (ls' := [(3, .int (0 : Int32)), (0, .ref x0), (1, .int x1), (2, .int x2)]) rfl ?_
    refine j_iconst (pc := 43) C dX3_laneOf_43 (v := 0) rfl ?_
    refine j_istore (pc := 44) C dX3_laneOf_44 (Nat.le_of_ble_eq_true rfl) (ls' := [(4, .int (0 : Int32)), (3, .int (0 : Int32)), (0, .ref x0), (1, .int x1), (2, .int x2)]) rfl ?_
    refine j_loc [2, 3, 4, 1, 0] rfl ?_
    exact t_X3_laneOf_l46 C  FU9 x0 x1 x2 (0 : Int32) (0 : Int32) M8
  · refine j_iconst (pc := 39) C dX3_laneOf_39 (v := 0) rfl ?_
    exact j_ireturn (pc := 40) C rfl dX3_laneOf_40 ⟨Nat.zero_le _, Nat.zero_le _⟩
def f_X3_laneOf (z : Sh9) (a0 : Nat) (a1 : Int32) (a2 : Int32) (M : Mem9) : Re9 :=
  ((rf9 z a0 3 2).bind fun v1 => (bi9 (f_X3_isLane z v1 a1 M) fun v3 M2 => (if v3 = 0 then (f_X3_laneOf_b33 z  a0 a1 a2 (1 : Int32) a0 M2) else (bi9 (f_X3_in z (Int32.toInt64 a2) (0 : Int64) (7 : Int64) M2) fun v5 M4 => (if v5 = 0 then (f_X3_laneOf_b33 z  a0 a1 a2 (2 : Int32) a0 M4) else (f_X3_laneOf_b33 z  a0 a1 a2 (0 : Int32) a0 M4))))))
set_option maxRecDepth 20000 in
set_option maxHeartbeats 4000000 in
theorem t_X3_laneOf {z : Sh9} {N : Nv9} {X : Cx9} {out : Out9 × Mem9} (C : OK9 z N X out 5 (co9 out.1) cX3_laneOf RX3 2 1 []) (a0 : Nat) (a1 : Int32) (a2 : Int32) (M : Mem9) : J9 z N X out 5 0 [(0, .ref a0), (1, .int a1), (2, .int a2)] [] M (0, 0) (f_X3_laneOf z a0 a1 a2 M) := by
  refine j_aload_n (pc := 0) C dX3_laneOf_0 rfl ?_
  refine j_aload_n (pc := 1) C dX3_laneOf_1 rfl ?_
  refine j_getR (pc := 2) C dX3_laneOf_2 fl_X3_13 fr_X3_3 (fun v1 => ?_)
  refine j_iload_n (pc := 5) C dX3_laneOf_5 rfl ?_
  refine j_callSi (pc := 6) C rfl dX3_laneOf_6 ls_X3_44 rfl (Nat.le_of_ble_eq_true rfl) (Nat.le_of_ble_eq_true rfl) (by decide) (Or.inl rfl) ⟨Nat.le_refl _, Nat.le_refl _⟩ (fun l hl o ho => sp_X3_isLane hl ho) (fun v3 M2 => ?_)
  refine j_if_ne (pc := 9) C dX3_laneOf_9 (tgt := 16) (by decide) (fun hc7 => ?_) (fun hc7 => ?_)
  · refine j_iload_n (pc := 16) C dX3_laneOf_16 rfl ?_
    refine j_i2l (pc := 17) C dX3_laneOf_17 ?_
    refine j_lconst (pc := 18) C dX3_laneOf_18 (v := 0) rfl ?_
    refine j_ldc2 (pc := 19) C dX3_laneOf_19 (v := 7) w9_926 ?_
    refine j_callSi (pc := 22) C rfl dX3_laneOf_22 ls_X3_40 rfl (Nat.le_of_ble_eq_true rfl) (Nat.le_of_ble_eq_true rfl) (by decide) (Or.inl rfl) ⟨Nat.le_refl _, Nat.le_refl _⟩ (fun l hl o ho => sp_X3_in hl ho) (fun v5 M4 => ?_)
    refine j_if_eq (pc := 25) C dX3_laneOf_25 (tgt := 32) (by decide) (fun hc6 => ?_) (fun hc6 => ?_)
    · refine j_iconst (pc := 32) C dX3_laneOf_32 (v := 2) rfl ?_
      exact t_X3_laneOf_b33 C  a0 a1 a2 (2 : Int32) a0 M4
    · refine j_iconst (pc := 28) C dX3_laneOf_28 (v := 0) rfl ?_
      refine j_goto (pc := 29) C dX3_laneOf_29 (tgt := 33) (by decide) ?_
      exact t_X3_laneOf_b33 C  a0 a1 a2 (0 : Int32) a0 M4
  · refine j_iconst (pc := 12) C dX3_laneOf_12 (v := 1) rfl ?_
    refine j_goto (pc := 13) C dX3_laneOf_13 (tgt := 33) (by decide) ?_
    exact t_X3_laneOf_b33 C  a0 a1 a2 (1 : Int32) a0 M2
theorem sp_X3_laneOf {l : Launch} {z : Sh9} {N : Nv9} {a0 : Nat} {a1 : Int32} {a2 : Int32} {M : Mem9} {o : Out9 × Mem9} (hl : l.stackTraces = false) (h : f_X3_laneOf z a0 a1 a2 M = some o) : Sp9 l z N yX3_laneOf (Cond.code yX3_laneOf cX3_laneOf 5 (some .int)) 2 [.ref a0, .int a1, .int a2] M (co9 o.1) o :=
  sp9_of (rk := 1) (own := RX3) (by decide +kernel) rfl (Or.inr (Or.inl ⟨rfl, rfl⟩)) hl (Nat.le_of_ble_eq_true rfl) (fun X C => t_X3_laneOf C a0 a1 a2 M) h
def f_X3_load_b18 (z : Sh9)  (x0 : Nat) (s0 : Int32) (s1 : Nat) (M : Mem9) : Re9 :=
  (bi9 (iv9 z s1 3 (f_X3_refused z s1 s0 M)) fun v6 M5 => (if v6 = 0 then ((rf9 z x0 3 3).bind fun v7 => ((rf9 z x0 3 2).bind fun v8 => (bv9 (f_X3_copyState z v7 (0 : Int32) v8 (0 : Int32) M5) fun M9 => ((pf9 z M9 x0 3 6 (0 : Int32)).bind fun M10 => ((rf9 z x0 3 6).bind fun v11 => ((sz9 z M10 v11 (0 : Int32) (0 : Int32)).bind fun M12 => ((rf9 z x0 3 6).bind fun v13 => ((sz9 z M12 v13 (1 : Int32) (0 : Int32)).bind fun M14 => ((gf9 z M14 x0 3 12).bind fun v15 => (ri9 v15 M14)))))))))) else (ri9 (0 : Int32) M5)))
set_option maxRecDepth 20000 in
set_option maxHeartbeats 4000000 in
theorem t_X3_load_b18 {z : Sh9} {N : Nv9} {X : Cx9} {out : Out9 × Mem9} (C : OK9 z N X out 1 (co9 out.1) cX3_load RX3 10 1 [])  (x0 : Nat) (s0 : Int32) (s1 : Nat) (M : Mem9) : J9 z N X out 1 18 [(0, .ref x0)] [.int s0, .ref s1] M (0, 0) (f_X3_load_b18 z  x0 s0 s1 M) := by
  refine j_callVi (pc := 18) C rfl dX3_load_18 lv_X3_130 rfl (Nat.le_of_ble_eq_true rfl) (Nat.le_of_ble_eq_true rfl) (by decide) (Or.inl rfl) ⟨Nat.le_refl _, Nat.le_refl _⟩ (fun l hl o ho => sp_X3_refused hl ho) (fun v6 M5 => ?_)
  refine j_if_eq (pc := 21) C dX3_load_21 (tgt := 26) (by decide) (fun hc16 => ?_) (fun hc16 => ?_)
  · refine j_aload_n (pc := 26) C dX3_load_26 rfl ?_
    refine j_getR (pc := 27) C dX3_load_27 fl_X3_16 fr_X3_4 (fun v7 => ?_)
    refine j_iconst (pc := 30) C dX3_load_30 (v := 0) rfl ?_
    refine j_aload_n (pc := 31) C dX3_load_31 rfl ?_
    refine j_getR (pc := 32) C dX3_load_32 fl_X3_13 fr_X3_3 (fun v8 => ?_)
    refine j_iconst (pc := 35) C dX3_load_35 (v := 0) rfl ?_
    refine j_callSv (pc := 36) C rfl dX3_load_36 ls_X3_187 rfl (Nat.le_of_ble_eq_true rfl) (Nat.le_of_ble_eq_true rfl) (by decide) (Or.inl rfl) ⟨Nat.le_refl _, Nat.le_refl _⟩ (fun l hl o ho => sp_X3_copyState hl ho) (fun M9 => ?_)
    refine j_aload_n (pc := 39) C dX3_load_39 rfl ?_
    refine j_iconst (pc := 40) C dX3_load_40 (v := 0) rfl ?_
    refine j_putI (pc := 41) C dX3_load_41 fl_X3_191 fi_X3_6 rfl rfl (fun M10 => ?_)
    refine j_aload_n (pc := 44) C dX3_load_44 rfl ?_
    refine j_getR (pc := 45) C dX3_load_45 fl_X3_25 fr_X3_8 (fun v11 => ?_)
    refine j_iconst (pc := 48) C dX3_load_48 (v := 0) rfl ?_
    refine j_iconst (pc := 49) C dX3_load_49 (v := 0) rfl ?_
    refine j_bastore (pc := 50) C dX3_load_50 (fun M12 => ?_)
    refine j_aload_n (pc := 51) C dX3_load_51 rfl ?_
    refine j_getR (pc := 52) C dX3_load_52 fl_X3_25 fr_X3_8 (fun v13 => ?_)
    refine j_iconst (pc := 55) C dX3_load_55 (v := 1) rfl ?_
    refine j_iconst (pc := 56) C dX3_load_56 (v := 0) rfl ?_
    refine j_bastore (pc := 57) C dX3_load_57 (fun M14 => ?_)
    refine j_aload_n (pc := 58) C dX3_load_58 rfl ?_
    refine j_getI (pc := 59) C dX3_load_59 fl_X3_142 fi_X3_12 (fun v15 => ?_)
    exact j_ireturn (pc := 62) C rfl dX3_load_62 ⟨Nat.zero_le _, Nat.zero_le _⟩
  · refine j_iconst (pc := 24) C dX3_load_24 (v := 0) rfl ?_
    exact j_ireturn (pc := 25) C rfl dX3_load_25 ⟨Nat.zero_le _, Nat.zero_le _⟩
def f_X3_load (z : Sh9) (a0 : Nat) (M : Mem9) : Re9 :=
  ((rf9 z a0 3 3).bind fun v1 => (bi9 (iv9 z a0 3 (f_X3_readText z a0 v1 M)) fun v3 M2 => (if v3 = (-1 : Int32) then (f_X3_load_b18 z  a0 (0 : Int32) a0 M2) else (f_X3_load_b18 z  a0 (1 : Int32) a0 M2))))
set_option maxRecDepth 20000 in
set_option maxHeartbeats 4000000 in
theorem t_X3_load {z : Sh9} {N : Nv9} {X : Cx9} {out : Out9 × Mem9} (C : OK9 z N X out 1 (co9 out.1) cX3_load RX3 10 1 []) (a0 : Nat) (M : Mem9) : J9 z N X out 1 0 [(0, .ref a0)] [] M (0, 0) (f_X3_load z a0 M) := by
  refine j_aload_n (pc := 0) C dX3_load_0 rfl ?_
  refine j_aload_n (pc := 1) C dX3_load_1 rfl ?_
  refine j_aload_n (pc := 2) C dX3_load_2 rfl ?_
  refine j_getR (pc := 3) C dX3_load_3 fl_X3_16 fr_X3_4 (fun v1 => ?_)
  refine j_callVi (pc := 6) C rfl dX3_load_6 lv_X3_184 rfl (Nat.le_of_ble_eq_true rfl) (Nat.le_of_ble_eq_true rfl) (by decide) (Or.inl rfl) ⟨Nat.le_refl _, Nat.le_refl _⟩ (fun l hl o ho => sp_X3_readText hl ho) (fun v3 M2 => ?_)
  refine j_iconst (pc := 9) C dX3_load_9 (v := -1) rfl ?_
  refine j_icmp_ne (pc := 10) C dX3_load_10 (tgt := 17) (by decide) (fun hc4 => ?_) (fun hc4 => ?_)
  · refine j_iconst (pc := 17) C dX3_load_17 (v := 1) rfl ?_
    exact t_X3_load_b18 C  a0 (1 : Int32) a0 M2
  · refine j_iconst (pc := 13) C dX3_load_13 (v := 0) rfl ?_
    refine j_goto (pc := 14) C dX3_load_14 (tgt := 18) (by decide) ?_
    exact t_X3_load_b18 C  a0 (0 : Int32) a0 M2
theorem sp_X3_load {l : Launch} {z : Sh9} {N : Nv9} {a0 : Nat} {M : Mem9} {o : Out9 × Mem9} (hl : l.stackTraces = false) (h : f_X3_load z a0 M = some o) : Sp9 l z N yX3_load (Cond.code yX3_load cX3_load 1 (some .int)) 10 [.ref a0] M (co9 o.1) o :=
  sp9_of (rk := 1) (own := RX3) (by decide +kernel) rfl (Or.inr (Or.inl ⟨rfl, rfl⟩)) hl (Nat.le_of_ble_eq_true rfl) (fun X C => t_X3_load C a0 M) h
def f_X3_loop_b17 (z : Sh9)  (x0 : Nat) (x1 : Int32) (x2 : Int32) (s0 : Int32) (s1 : Nat) (M : Mem9) : Re9 :=
  (bi9 (iv9 z s1 3 (f_X3_refused z s1 s0 M)) fun v6 M5 => (if v6 = 0 then (bv9 (iv9 z x0 3 (f_X3_remember z x0  M5)) fun M7 => ((rf9 z x0 3 2).bind fun v8 => (bi9 (f_X3_loopOn z v8 x1 x2 M7) fun v10 M9 => (ri9 v10 M9)))) else (ri9 (0 : Int32) M5)))
set_option maxRecDepth 20000 in
set_option maxHeartbeats 4000000 in
theorem t_X3_loop_b17 {z : Sh9} {N : Nv9} {X : Cx9} {out : Out9 × Mem9} (C : OK9 z N X out 3 (co9 out.1) cX3_loop RX3 3 1 [])  (x0 : Nat) (x1 : Int32) (x2 : Int32) (s0 : Int32) (s1 : Nat) (M : Mem9) : J9 z N X out 3 17 [(0, .ref x0), (1, .int x1), (2, .int x2)] [.int s0, .ref s1] M (0, 0) (f_X3_loop_b17 z  x0 x1 x2 s0 s1 M) := by
  refine j_callVi (pc := 17) C rfl dX3_loop_17 lv_X3_130 rfl (Nat.le_of_ble_eq_true rfl) (Nat.le_of_ble_eq_true rfl) (by decide) (Or.inl rfl) ⟨Nat.le_refl _, Nat.le_refl _⟩ (fun l hl o ho => sp_X3_refused hl ho) (fun v6 M5 => ?_)
  refine j_if_eq (pc := 20) C dX3_loop_20 (tgt := 25) (by decide) (fun hc11 => ?_) (fun hc11 => ?_)
  · refine j_aload_n (pc := 25) C dX3_loop_25 rfl ?_
    refine j_callVv (pc := 26) C rfl dX3_loop_26 lv_X3_204 rfl (Nat.le_of_ble_eq_true rfl) (Nat.le_of_ble_eq_true rfl) (by decide) (Or.inl rfl) ⟨Nat.le_refl _, Nat.le_refl _⟩ (fun l hl o ho => sp_X3_remember hl ho) (fun M7 => ?_)
    refine j_aload_n (pc := 29) C dX3_loop_29 rfl ?_
    refine j_getR (pc := 30) C dX3_loop_30 fl_X3_13 fr_X3_3 (fun v8 => ?_)
    refine j_iload_n (pc := 33) C dX3_loop_33 rfl ?_
    refine j_iload_n (pc := 34) C dX3_loop_34 rfl ?_
    refine j_callSi (pc := 35) C rfl dX3_loop_35 ls_X3_167 rfl (Nat.le_of_ble_eq_true rfl) (Nat.le_of_ble_eq_true rfl) (by decide) (Or.inl rfl) ⟨Nat.le_refl _, Nat.le_refl _⟩ (fun l hl o ho => sp_X3_loopOn hl ho) (fun v10 M9 => ?_)
    exact j_ireturn (pc := 38) C rfl dX3_loop_38 ⟨Nat.zero_le _, Nat.zero_le _⟩
  · refine j_iconst (pc := 23) C dX3_loop_23 (v := 0) rfl ?_
    exact j_ireturn (pc := 24) C rfl dX3_loop_24 ⟨Nat.zero_le _, Nat.zero_le _⟩
def f_X3_loop (z : Sh9) (a0 : Nat) (a1 : Int32) (a2 : Int32) (M : Mem9) : Re9 :=
  ((rf9 z a0 3 2).bind fun v1 => (bi9 (f_X3_isLane z v1 a1 M) fun v3 M2 => (if v3 = 0 then (f_X3_loop_b17 z  a0 a1 a2 (1 : Int32) a0 M2) else (f_X3_loop_b17 z  a0 a1 a2 (0 : Int32) a0 M2))))
set_option maxRecDepth 20000 in
set_option maxHeartbeats 4000000 in
theorem t_X3_loop {z : Sh9} {N : Nv9} {X : Cx9} {out : Out9 × Mem9} (C : OK9 z N X out 3 (co9 out.1) cX3_loop RX3 3 1 []) (a0 : Nat) (a1 : Int32) (a2 : Int32) (M : Mem9) : J9 z N X out 3 0 [(0, .ref a0), (1, .int a1), (2, .int a2)] [] M (0, 0) (f_X3_loop z a0 a1 a2 M) := by
  refine j_aload_n (pc := 0) C dX3_loop_0 rfl ?_
  refine j_aload_n (pc := 1) C dX3_loop_1 rfl ?_
  refine j_getR (pc := 2) C dX3_loop_2 fl_X3_13 fr_X3_3 (fun v1 => ?_)
  refine j_iload_n (pc := 5) C dX3_loop_5 rfl ?_
  refine j_callSi (pc := 6) C rfl dX3_loop_6 ls_X3_44 rfl (Nat.le_of_ble_eq_true rfl) (Nat.le_of_ble_eq_true rfl) (by decide) (Or.inl rfl) ⟨Nat.le_refl _, Nat.le_refl _⟩ (fun l hl o ho => sp_X3_isLane hl ho) (fun v3 M2 => ?_)
  refine j_if_eq (pc := 9) C dX3_loop_9 (tgt := 16) (by decide) (fun hc4 => ?_) (fun hc4 => ?_)
  · refine j_iconst (pc := 16) C dX3_loop_16 (v := 1) rfl ?_
    exact t_X3_loop_b17 C  a0 a1 a2 (1 : Int32) a0 M2
  · refine j_iconst (pc := 12) C dX3_loop_12 (v := 0) rfl ?_
    refine j_goto (pc := 13) C dX3_loop_13 (tgt := 17) (by decide) ?_
    exact t_X3_loop_b17 C  a0 a1 a2 (0 : Int32) a0 M2
theorem sp_X3_loop {l : Launch} {z : Sh9} {N : Nv9} {a0 : Nat} {a1 : Int32} {a2 : Int32} {M : Mem9} {o : Out9 × Mem9} (hl : l.stackTraces = false) (h : f_X3_loop z a0 a1 a2 M = some o) : Sp9 l z N yX3_loop (Cond.code yX3_loop cX3_loop 3 (some .int)) 3 [.ref a0, .int a1, .int a2] M (co9 o.1) o :=
  sp9_of (rk := 1) (own := RX3) (by decide +kernel) rfl (Or.inr (Or.inl ⟨rfl, rfl⟩)) hl (Nat.le_of_ble_eq_true rfl) (fun X C => t_X3_loop C a0 a1 a2 M) h
def f_X3_mend_b32 (z : Sh9)  (x0 : Nat) (x1 : Int32) (s0 : Int32) (s1 : Nat) (M : Mem9) : Re9 :=
  (bi9 (iv9 z s1 3 (f_X3_refused z s1 s0 M)) fun v10 M9 => (if v10 = 0 then (bv9 (iv9 z x0 3 (f_X3_remember z x0  M9)) fun M11 => ((rf9 z x0 3 2).bind fun v12 => (bi9 (f_X3_mendOn z v12 x1 M11) fun v14 M13 => (ri9 v14 M13)))) else (ri9 (0 : Int32) M9)))
set_option maxRecDepth 20000 in
set_option maxHeartbeats 4000000 in
theorem t_X3_mend_b32 {z : Sh9} {N : Nv9} {X : Cx9} {out : Out9 × Mem9} (C : OK9 z N X out 2 (co9 out.1) cX3_mend RX3 6 1 [])  (x0 : Nat) (x1 : Int32) (s0 : Int32) (s1 : Nat) (M : Mem9) : J9 z N X out 2 32 [(0, .ref x0), (1, .int x1)] [.int s0, .ref s1] M (0, 0) (f_X3_mend_b32 z  x0 x1 s0 s1 M) := by
  refine j_callVi (pc := 32) C rfl dX3_mend_32 lv_X3_130 rfl (Nat.le_of_ble_eq_true rfl) (Nat.le_of_ble_eq_true rfl) (by decide) (Or.inl rfl) ⟨Nat.le_refl _, Nat.le_refl _⟩ (fun l hl o ho => sp_X3_refused hl ho) (fun v10 M9 => ?_)
  refine j_if_eq (pc := 35) C dX3_mend_35 (tgt := 40) (by decide) (fun hc15 => ?_) (fun hc15 => ?_)
  · refine j_aload_n (pc := 40) C dX3_mend_40 rfl ?_
    refine j_callVv (pc := 41) C rfl dX3_mend_41 lv_X3_204 rfl (Nat.le_of_ble_eq_true rfl) (Nat.le_of_ble_eq_true rfl) (by decide) (Or.inl rfl) ⟨Nat.le_refl _, Nat.le_refl _⟩ (fun l hl o ho => sp_X3_remember hl ho) (fun M11 => ?_)
    refine j_aload_n (pc := 44) C dX3_mend_44 rfl ?_
    refine j_getR (pc := 45) C dX3_mend_45 fl_X3_13 fr_X3_3 (fun v12 => ?_)
    refine j_iload_n (pc := 48) C dX3_mend_48 rfl ?_
    refine j_callSi (pc := 49) C rfl dX3_mend_49 ls_X3_174 rfl (Nat.le_of_ble_eq_true rfl) (Nat.le_of_ble_eq_true rfl) (by decide) (Or.inl rfl) ⟨Nat.le_refl _, Nat.le_refl _⟩ (fun l hl o ho => sp_X3_mendOn hl ho) (fun v14 M13 => ?_)
    exact j_ireturn (pc := 52) C rfl dX3_mend_52 ⟨Nat.zero_le _, Nat.zero_le _⟩
  · refine j_iconst (pc := 38) C dX3_mend_38 (v := 0) rfl ?_
    exact j_ireturn (pc := 39) C rfl dX3_mend_39 ⟨Nat.zero_le _, Nat.zero_le _⟩
def f_X3_mend (z : Sh9) (a0 : Nat) (a1 : Int32) (M : Mem9) : Re9 :=
  ((rf9 z a0 3 2).bind fun v1 => (bi9 (f_X3_isLane z v1 a1 M) fun v3 M2 => (if v3 = 0 then (f_X3_mend_b32 z  a0 a1 (1 : Int32) a0 M2) else ((rf9 z a0 3 2).bind fun v4 => (bi9 (f_X3_canMend z v4 a1 M2) fun v6 M5 => (if v6 = 0 then (f_X3_mend_b32 z  a0 a1 (2 : Int32) a0 M5) else (f_X3_mend_b32 z  a0 a1 (0 : Int32) a0 M5)))))))
set_option maxRecDepth 20000 in
set_option maxHeartbeats 4000000 in
theorem t_X3_mend {z : Sh9} {N : Nv9} {X : Cx9} {out : Out9 × Mem9} (C : OK9 z N X out 2 (co9 out.1) cX3_mend RX3 6 1 []) (a0 : Nat) (a1 : Int32) (M : Mem9) : J9 z N X out 2 0 [(0, .ref a0), (1, .int a1)] [] M (0, 0) (f_X3_mend z a0 a1 M) := by
  refine j_aload_n (pc := 0) C dX3_mend_0 rfl ?_
  refine j_aload_n (pc := 1) C dX3_mend_1 rfl ?_
  refine j_getR (pc := 2) C dX3_mend_2 fl_X3_13 fr_X3_3 (fun v1 => ?_)
  refine j_iload_n (pc := 5) C dX3_mend_5 rfl ?_
  refine j_callSi (pc := 6) C rfl dX3_mend_6 ls_X3_44 rfl (Nat.le_of_ble_eq_true rfl) (Nat.le_of_ble_eq_true rfl) (by decide) (Or.inl rfl) ⟨Nat.le_refl _, Nat.le_refl _⟩ (fun l hl o ho => sp_X3_isLane hl ho) (fun v3 M2 => ?_)
  refine j_if_ne (pc := 9) C dX3_mend_9 (tgt := 16) (by decide) (fun hc8 => ?_) (fun hc8 => ?_)
  · refine j_aload_n (pc := 16) C dX3_mend_16 rfl ?_
    refine j_getR (pc := 17) C dX3_mend_17 fl_X3_13 fr_X3_3 (fun v4 => ?_)
    refine j_iload_n (pc := 20) C dX3_mend_20 rfl ?_
    refine j_callSi (pc := 21) C rfl dX3_mend_21 ls_X3_171 rfl (Nat.le_of_ble_eq_true rfl) (Nat.le_of_ble_eq_true rfl) (by decide) (Or.inl rfl) ⟨Nat.le_refl _, Nat.le_refl _⟩ (fun l hl o ho => sp_X3_canMend hl ho) (fun v6 M5 => ?_)
    refine j_if_eq (pc := 24) C dX3_mend_24 (tgt := 31) (by decide) (fun hc7 => ?_) (fun hc7 => ?_)
    · refine j_iconst (pc := 31) C dX3_mend_31 (v := 2) rfl ?_
      exact t_X3_mend_b32 C  a0 a1 (2 : Int32) a0 M5
    · refine j_iconst (pc := 27) C dX3_mend_27 (v := 0) rfl ?_
      refine j_goto (pc := 28) C dX3_mend_28 (tgt := 32) (by decide) ?_
      exact t_X3_mend_b32 C  a0 a1 (0 : Int32) a0 M5
  · refine j_iconst (pc := 12) C dX3_mend_12 (v := 1) rfl ?_
    refine j_goto (pc := 13) C dX3_mend_13 (tgt := 32) (by decide) ?_
    exact t_X3_mend_b32 C  a0 a1 (1 : Int32) a0 M2
theorem sp_X3_mend {l : Launch} {z : Sh9} {N : Nv9} {a0 : Nat} {a1 : Int32} {M : Mem9} {o : Out9 × Mem9} (hl : l.stackTraces = false) (h : f_X3_mend z a0 a1 M = some o) : Sp9 l z N yX3_mend (Cond.code yX3_mend cX3_mend 2 (some .int)) 6 [.ref a0, .int a1] M (co9 o.1) o :=
  sp9_of (rk := 1) (own := RX3) (by decide +kernel) rfl (Or.inr (Or.inl ⟨rfl, rfl⟩)) hl (Nat.le_of_ble_eq_true rfl) (fun X C => t_X3_mend C a0 a1 M) h
def f_X3_restore_b29 (z : Sh9)  (x0 : Nat) (x1 : Int32) (s0 : Int32) (s1 : Nat) (M : Mem9) : Re9 :=
  (bi9 (iv9 z s1 3 (f_X3_refused z s1 s0 M)) fun v8 M7 => (if v8 = 0 then ((rf9 z x0 3 5).bind fun v9 => ((rf9 z x0 3 2).bind fun v10 => (bv9 (f_X3_copyState z v9 ((121 : Int32) * x1) v10 (0 : Int32) M7) fun M11 => ((pf9 z M11 x0 3 6 (0 : Int32)).bind fun M12 => ((rf9 z x0 3 2).bind fun v13 => ((ld9 z M12 10 v13 (1 : Int32)).bind fun v14 => (ri9 v14 M12))))))) else (ri9 (0 : Int32) M7)))
set_option maxRecDepth 20000 in
set_option maxHeartbeats 4000000 in
theorem t_X3_restore_b29 {z : Sh9} {N : Nv9} {X : Cx9} {out : Out9 × Mem9} (C : OK9 z N X out 2 (co9 out.1) cX3_restore RX3 1 1 [])  (x0 : Nat) (x1 : Int32) (s0 : Int32) (s1 : Nat) (M : Mem9) : J9 z N X out 2 29 [(0, .ref x0), (1, .int x1)] [.int s0, .ref s1] M (0, 0) (f_X3_restore_b29 z  x0 x1 s0 s1 M) := by
  refine j_callVi (pc := 29) C rfl dX3_restore_29 lv_X3_130 rfl (Nat.le_of_ble_eq_true rfl) (Nat.le_of_ble_eq_true rfl) (by decide) (Or.inl rfl) ⟨Nat.le_refl _, Nat.le_refl _⟩ (fun l hl o ho => sp_X3_refused hl ho) (fun v8 M7 => ?_)
  refine j_if_eq (pc := 32) C dX3_restore_32 (tgt := 37) (by decide) (fun hc15 => ?_) (fun hc15 => ?_)
  · refine j_aload_n (pc := 37) C dX3_restore_37 rfl ?_
    refine j_getR (pc := 38) C dX3_restore_38 fl_X3_22 fr_X3_7 (fun v9 => ?_)
    refine j_bipush (pc := 41) C dX3_restore_41 (v := 121) rfl ?_
    refine j_iload_n (pc := 43) C dX3_restore_43 rfl ?_
    refine j_imul (pc := 44) C dX3_restore_44 ?_
    refine j_aload_n (pc := 45) C dX3_restore_45 rfl ?_
    refine j_getR (pc := 46) C dX3_restore_46 fl_X3_13 fr_X3_3 (fun v10 => ?_)
    refine j_iconst (pc := 49) C dX3_restore_49 (v := 0) rfl ?_
    refine j_callSv (pc := 50) C rfl dX3_restore_50 ls_X3_187 rfl (Nat.le_of_ble_eq_true rfl) (Nat.le_of_ble_eq_true rfl) (by decide) (Or.inl rfl) ⟨Nat.le_refl _, Nat.le_refl _⟩ (fun l hl o ho => sp_X3_copyState hl ho) (fun M11 => ?_)
    refine j_aload_n (pc := 53) C dX3_restore_53 rfl ?_
    refine j_iconst (pc := 54) C dX3_restore_54 (v := 0) rfl ?_
    refine j_putI (pc := 55) C dX3_restore_55 fl_X3_191 fi_X3_6 rfl rfl (fun M12 => ?_)
    refine j_aload_n (pc := 58) C dX3_restore_58 rfl ?_
    refine j_getR (pc := 59) C dX3_restore_59 fl_X3_13 fr_X3_3 (fun v13 => ?_)
    refine j_iconst (pc := 62) C dX3_restore_62 (v := 1) rfl ?_
    refine j_iaload (pc := 63) C dX3_restore_63 (fun v14 => ?_)
    exact j_ireturn (pc := 64) C rfl dX3_restore_64 ⟨Nat.zero_le _, Nat.zero_le _⟩
  · refine j_iconst (pc := 35) C dX3_restore_35 (v := 0) rfl ?_
    exact j_ireturn (pc := 36) C rfl dX3_restore_36 ⟨Nat.zero_le _, Nat.zero_le _⟩
def f_X3_restore (z : Sh9) (a0 : Nat) (a1 : Int32) (M : Mem9) : Re9 :=
  (bi9 (f_X3_in z (Int32.toInt64 a1) (0 : Int64) (1 : Int64) M) fun v2 M1 => (if v2 = 0 then (f_X3_restore_b29 z  a0 a1 (1 : Int32) a0 M1) else ((rf9 z a0 3 6).bind fun v3 => ((ld9 z M1 11 v3 a1).bind fun v4 => (if v4 = 0 then (f_X3_restore_b29 z  a0 a1 (2 : Int32) a0 M1) else (f_X3_restore_b29 z  a0 a1 (0 : Int32) a0 M1))))))
set_option maxRecDepth 20000 in
set_option maxHeartbeats 4000000 in
theorem t_X3_restore {z : Sh9} {N : Nv9} {X : Cx9} {out : Out9 × Mem9} (C : OK9 z N X out 2 (co9 out.1) cX3_restore RX3 1 1 []) (a0 : Nat) (a1 : Int32) (M : Mem9) : J9 z N X out 2 0 [(0, .ref a0), (1, .int a1)] [] M (0, 0) (f_X3_restore z a0 a1 M) := by
  refine j_aload_n (pc := 0) C dX3_restore_0 rfl ?_
  refine j_iload_n (pc := 1) C dX3_restore_1 rfl ?_
  refine j_i2l (pc := 2) C dX3_restore_2 ?_
  refine j_lconst (pc := 3) C dX3_restore_3 (v := 0) rfl ?_
  refine j_lconst (pc := 4) C dX3_restore_4 (v := 1) rfl ?_
  refine j_callSi (pc := 5) C rfl dX3_restore_5 ls_X3_40 rfl (Nat.le_of_ble_eq_true rfl) (Nat.le_of_ble_eq_true rfl) (by decide) (Or.inl rfl) ⟨Nat.le_refl _, Nat.le_refl _⟩ (fun l hl o ho => sp_X3_in hl ho) (fun v2 M1 => ?_)
  refine j_if_ne (pc := 8) C dX3_restore_8 (tgt := 15) (by decide) (fun hc6 => ?_) (fun hc6 => ?_)
  · refine j_aload_n (pc := 15) C dX3_restore_15 rfl ?_
    refine j_getR (pc := 16) C dX3_restore_16 fl_X3_25 fr_X3_8 (fun v3 => ?_)
    refine j_iload_n (pc := 19) C dX3_restore_19 rfl ?_
    refine j_baload (pc := 20) C dX3_restore_20 (fun v4 => ?_)
    refine j_if_ne (pc := 21) C dX3_restore_21 (tgt := 28) (by decide) (fun hc5 => ?_) (fun hc5 => ?_)
    · refine j_iconst (pc := 28) C dX3_restore_28 (v := 0) rfl ?_
      exact t_X3_restore_b29 C  a0 a1 (0 : Int32) a0 M1
    · refine j_iconst (pc := 24) C dX3_restore_24 (v := 2) rfl ?_
      refine j_goto (pc := 25) C dX3_restore_25 (tgt := 29) (by decide) ?_
      exact t_X3_restore_b29 C  a0 a1 (2 : Int32) a0 M1
  · refine j_iconst (pc := 11) C dX3_restore_11 (v := 1) rfl ?_
    refine j_goto (pc := 12) C dX3_restore_12 (tgt := 29) (by decide) ?_
    exact t_X3_restore_b29 C  a0 a1 (1 : Int32) a0 M1
theorem sp_X3_restore {l : Launch} {z : Sh9} {N : Nv9} {a0 : Nat} {a1 : Int32} {M : Mem9} {o : Out9 × Mem9} (hl : l.stackTraces = false) (h : f_X3_restore z a0 a1 M = some o) : Sp9 l z N yX3_restore (Cond.code yX3_restore cX3_restore 2 (some .int)) 1 [.ref a0, .int a1] M (co9 o.1) o :=
  sp9_of (rk := 1) (own := RX3) (by decide +kernel) rfl (Or.inr (Or.inl ⟨rfl, rfl⟩)) hl (Nat.le_of_ble_eq_true rfl) (fun X C => t_X3_restore C a0 a1 M) h
def f_X3_run_b18 (z : Sh9)  (x0 : Nat) (x1 : Int32) (s0 : Int32) (s1 : Nat) (M : Mem9) : Re9 :=
  (bi9 (iv9 z s1 3 (f_X3_refused z s1 s0 M)) fun v5 M4 => (if v5 = 0 then (bv9 (iv9 z x0 3 (f_X3_remember z x0  M4)) fun M6 => ((rf9 z x0 3 2).bind fun v7 => (bi9 (iv9 z x0 3 (f_X3_runOn z x0 v7 x1 M6)) fun v9 M8 => (ri9 v9 M8)))) else (ri9 (0 : Int32) M4)))
set_option maxRecDepth 20000 in
set_option maxHeartbeats 4000000 in
theorem t_X3_run_b18 {z : Sh9} {N : Nv9} {X : Cx9} {out : Out9 × Mem9} (C : OK9 z N X out 2 (co9 out.1) cX3_run RX3 8 1 [])  (x0 : Nat) (x1 : Int32) (s0 : Int32) (s1 : Nat) (M : Mem9) : J9 z N X out 2 18 [(0, .ref x0), (1, .int x1)] [.int s0, .ref s1] M (0, 0) (f_X3_run_b18 z  x0 x1 s0 s1 M) := by
  refine j_callVi (pc := 18) C rfl dX3_run_18 lv_X3_130 rfl (Nat.le_of_ble_eq_true rfl) (Nat.le_of_ble_eq_true rfl) (by decide) (Or.inl rfl) ⟨Nat.le_refl _, Nat.le_refl _⟩ (fun l hl o ho => sp_X3_refused hl ho) (fun v5 M4 => ?_)
  refine j_if_eq (pc := 21) C dX3_run_21 (tgt := 26) (by decide) (fun hc10 => ?_) (fun hc10 => ?_)
  · refine j_aload_n (pc := 26) C dX3_run_26 rfl ?_
    refine j_callVv (pc := 27) C rfl dX3_run_27 lv_X3_204 rfl (Nat.le_of_ble_eq_true rfl) (Nat.le_of_ble_eq_true rfl) (by decide) (Or.inl rfl) ⟨Nat.le_refl _, Nat.le_refl _⟩ (fun l hl o ho => sp_X3_remember hl ho) (fun M6 => ?_)
    refine j_aload_n (pc := 30) C dX3_run_30 rfl ?_
    refine j_aload_n (pc := 31) C dX3_run_31 rfl ?_
    refine j_getR (pc := 32) C dX3_run_32 fl_X3_13 fr_X3_3 (fun v7 => ?_)
    refine j_iload_n (pc := 35) C dX3_run_35 rfl ?_
    refine j_callVi (pc := 36) C rfl dX3_run_36 lv_X3_177 rfl (Nat.le_of_ble_eq_true rfl) (Nat.le_of_ble_eq_true rfl) (by decide) (Or.inl rfl) ⟨Nat.le_refl _, Nat.le_refl _⟩ (fun l hl o ho => sp_X3_runOn hl ho) (fun v9 M8 => ?_)
    exact j_ireturn (pc := 39) C rfl dX3_run_39 ⟨Nat.zero_le _, Nat.zero_le _⟩
  · refine j_iconst (pc := 24) C dX3_run_24 (v := 0) rfl ?_
    exact j_ireturn (pc := 25) C rfl dX3_run_25 ⟨Nat.zero_le _, Nat.zero_le _⟩
def f_X3_run (z : Sh9) (a0 : Nat) (a1 : Int32) (M : Mem9) : Re9 :=
  (bi9 (f_X3_in z (Int32.toInt64 a1) (1 : Int64) (60 : Int64) M) fun v2 M1 => (if v2 = 0 then (f_X3_run_b18 z  a0 a1 (1 : Int32) a0 M1) else (f_X3_run_b18 z  a0 a1 (0 : Int32) a0 M1)))
set_option maxRecDepth 20000 in
set_option maxHeartbeats 4000000 in
theorem t_X3_run {z : Sh9} {N : Nv9} {X : Cx9} {out : Out9 × Mem9} (C : OK9 z N X out 2 (co9 out.1) cX3_run RX3 8 1 []) (a0 : Nat) (a1 : Int32) (M : Mem9) : J9 z N X out 2 0 [(0, .ref a0), (1, .int a1)] [] M (0, 0) (f_X3_run z a0 a1 M) := by
  refine j_aload_n (pc := 0) C dX3_run_0 rfl ?_
  refine j_iload_n (pc := 1) C dX3_run_1 rfl ?_
  refine j_i2l (pc := 2) C dX3_run_2 ?_
  refine j_lconst (pc := 3) C dX3_run_3 (v := 1) rfl ?_
  refine j_ldc2 (pc := 4) C dX3_run_4 (v := 60) w9_970 ?_
  refine j_callSi (pc := 7) C rfl dX3_run_7 ls_X3_40 rfl (Nat.le_of_ble_eq_true rfl) (Nat.le_of_ble_eq_true rfl) (by decide) (Or.inl rfl) ⟨Nat.le_refl _, Nat.le_refl _⟩ (fun l hl o ho => sp_X3_in hl ho) (fun v2 M1 => ?_)
  refine j_if_eq (pc := 10) C dX3_run_10 (tgt := 17) (by decide) (fun hc3 => ?_) (fun hc3 => ?_)
  · refine j_iconst (pc := 17) C dX3_run_17 (v := 1) rfl ?_
    exact t_X3_run_b18 C  a0 a1 (1 : Int32) a0 M1
  · refine j_iconst (pc := 13) C dX3_run_13 (v := 0) rfl ?_
    refine j_goto (pc := 14) C dX3_run_14 (tgt := 18) (by decide) ?_
    exact t_X3_run_b18 C  a0 a1 (0 : Int32) a0 M1
theorem sp_X3_run {l : Launch} {z : Sh9} {N : Nv9} {a0 : Nat} {a1 : Int32} {M : Mem9} {o : Out9 × Mem9} (hl : l.stackTraces = false) (h : f_X3_run z a0 a1 M = some o) : Sp9 l z N yX3_run (Cond.code yX3_run cX3_run 2 (some .int)) 8 [.ref a0, .int a1] M (co9 o.1) o :=
  sp9_of (rk := 1) (own := RX3) (by decide +kernel) rfl (Or.inr (Or.inl ⟨rfl, rfl⟩)) hl (Nat.le_of_ble_eq_true rfl) (fun X C => t_X3_run C a0 a1 M) h
def f_X3_isSetting_b33 (z : Sh9)  (x0 : Int32) (x1 : Int32) (M : Mem9) : Re9 :=
  (if x0 = (2 : Int32) then (bi9 (f_X3_in z (Int32.toInt64 x1) (0 : Int64) (20 : Int64) M) fun v10 M9 => (if v10 = 0 then (rz9 (0 : Int32) M9) else (rz9 (1 : Int32) M9))) else (rz9 (0 : Int32) M))
set_option maxRecDepth 20000 in
set_option maxHeartbeats 4000000 in
theorem t_X3_isSetting_b33 {z : Sh9} {N : Nv9} {X : Cx9} {out : Out9 × Mem9} (C : OK9 z N X out 2 (co9 out.1) cX3_isSetting RX3 1 2 [])  (x0 : Int32) (x1 : Int32) (M : Mem9) : J9 z N X out 2 33 [(0, .int x0), (1, .int x1)] [] M (0, 0) (f_X3_isSetting_b33 z  x0 x1 M) := by
  refine j_iload_n (pc := 33) C dX3_isSetting_33 rfl ?_
  refine j_iconst (pc := 34) C dX3_isSetting_34 (v := 2) rfl ?_
  refine j_icmp_ne (pc := 35) C dX3_isSetting_35 (tgt := 54) (by decide) (fun hc12 => ?_) (fun hc12 => ?_)
  · refine j_iconst (pc := 54) C dX3_isSetting_54 (v := 0) rfl ?_
    exact j_zreturn (pc := 55) C rfl dX3_isSetting_55 ⟨Nat.zero_le _, Nat.zero_le _⟩
  · refine j_iload_n (pc := 38) C dX3_isSetting_38 rfl ?_
    refine j_i2l (pc := 39) C dX3_isSetting_39 ?_
    refine j_lconst (pc := 40) C dX3_isSetting_40 (v := 0) rfl ?_
    refine j_ldc2 (pc := 41) C dX3_isSetting_41 (v := 20) w9_978 ?_
    refine j_callSi (pc := 44) C rfl dX3_isSetting_44 ls_X3_40 rfl (Nat.le_of_ble_eq_true rfl) (Nat.le_of_ble_eq_true rfl) (by decide) (Or.inl rfl) ⟨Nat.le_refl _, Nat.le_refl _⟩ (fun l hl o ho => sp_X3_in hl ho) (fun v10 M9 => ?_)
    refine j_if_eq (pc := 47) C dX3_isSetting_47 (tgt := 54) (by decide) (fun hc11 => ?_) (fun hc11 => ?_)
    · refine j_iconst (pc := 54) C dX3_isSetting_54 (v := 0) rfl ?_
      exact j_zreturn (pc := 55) C rfl dX3_isSetting_55 ⟨Nat.zero_le _, Nat.zero_le _⟩
    · refine j_iconst (pc := 50) C dX3_isSetting_50 (v := 1) rfl ?_
      refine j_goto (pc := 51) C dX3_isSetting_51 (tgt := 55) (by decide) ?_
      exact j_zreturn (pc := 55) C rfl dX3_isSetting_55 ⟨Nat.zero_le _, Nat.zero_le _⟩
def f_X3_isSetting_b16 (z : Sh9)  (x0 : Int32) (x1 : Int32) (M : Mem9) : Re9 :=
  (if x0 = (1 : Int32) then (bi9 (f_X3_in z (Int32.toInt64 x1) (1 : Int64) (60 : Int64) M) fun v6 M5 => (if v6 = 0 then (f_X3_isSetting_b33 z  x0 x1 M5) else (rz9 (1 : Int32) M5))) else (f_X3_isSetting_b33 z  x0 x1 M))
set_option maxRecDepth 20000 in
set_option maxHeartbeats 4000000 in
theorem t_X3_isSetting_b16 {z : Sh9} {N : Nv9} {X : Cx9} {out : Out9 × Mem9} (C : OK9 z N X out 2 (co9 out.1) cX3_isSetting RX3 1 2 [])  (x0 : Int32) (x1 : Int32) (M : Mem9) : J9 z N X out 2 16 [(0, .int x0), (1, .int x1)] [] M (0, 0) (f_X3_isSetting_b16 z  x0 x1 M) := by
  refine j_iload_n (pc := 16) C dX3_isSetting_16 rfl ?_
  refine j_iconst (pc := 17) C dX3_isSetting_17 (v := 1) rfl ?_
  refine j_icmp_ne (pc := 18) C dX3_isSetting_18 (tgt := 33) (by decide) (fun hc8 => ?_) (fun hc8 => ?_)
  · exact t_X3_isSetting_b33 C  x0 x1 M
  · refine j_iload_n (pc := 21) C dX3_isSetting_21 rfl ?_
    refine j_i2l (pc := 22) C dX3_isSetting_22 ?_
    refine j_lconst (pc := 23) C dX3_isSetting_23 (v := 1) rfl ?_
    refine j_ldc2 (pc := 24) C dX3_isSetting_24 (v := 60) w9_970 ?_
    refine j_callSi (pc := 27) C rfl dX3_isSetting_27 ls_X3_40 rfl (Nat.le_of_ble_eq_true rfl) (Nat.le_of_ble_eq_true rfl) (by decide) (Or.inl rfl) ⟨Nat.le_refl _, Nat.le_refl _⟩ (fun l hl o ho => sp_X3_in hl ho) (fun v6 M5 => ?_)
    refine j_if_ne (pc := 30) C dX3_isSetting_30 (tgt := 50) (by decide) (fun hc7 => ?_) (fun hc7 => ?_)
    · refine j_iconst (pc := 50) C dX3_isSetting_50 (v := 1) rfl ?_
      refine j_goto (pc := 51) C dX3_isSetting_51 (tgt := 55) (by decide) ?_
      exact j_zreturn (pc := 55) C rfl dX3_isSetting_55 ⟨Nat.zero_le _, Nat.zero_le _⟩
    · exact t_X3_isSetting_b33 C  x0 x1 M5
def f_X3_isSetting (z : Sh9) (a0 : Int32) (a1 : Int32) (M : Mem9) : Re9 :=
  (if a0 = 0 then (bi9 (f_X3_in z (Int32.toInt64 a1) (1 : Int64) (20 : Int64) M) fun v2 M1 => (if v2 = 0 then (f_X3_isSetting_b16 z  a0 a1 M1) else (rz9 (1 : Int32) M1))) else (f_X3_isSetting_b16 z  a0 a1 M))
set_option maxRecDepth 20000 in
set_option maxHeartbeats 4000000 in
theorem t_X3_isSetting {z : Sh9} {N : Nv9} {X : Cx9} {out : Out9 × Mem9} (C : OK9 z N X out 2 (co9 out.1) cX3_isSetting RX3 1 2 []) (a0 : Int32) (a1 : Int32) (M : Mem9) : J9 z N X out 2 0 [(0, .int a0), (1, .int a1)] [] M (0, 0) (f_X3_isSetting z a0 a1 M) := by
  refine j_iload_n (pc := 0) C dX3_isSetting_0 rfl ?_
  refine j_if_ne (pc := 1) C dX3_isSetting_1 (tgt := 16) (by decide) (fun hc4 => ?_) (fun hc4 => ?_)
  · exact t_X3_isSetting_b16 C  a0 a1 M
  · refine j_iload_n (pc := 4) C dX3_isSetting_4 rfl ?_
    refine j_i2l (pc := 5) C dX3_isSetting_5 ?_
    refine j_lconst (pc := 6) C dX3_isSetting_6 (v := 1) rfl ?_
    refine j_ldc2 (pc := 7) C dX3_isSetting_7 (v := 20) w9_978 ?_
    refine j_callSi (pc := 10) C rfl dX3_isSetting_10 ls_X3_40 rfl (Nat.le_of_ble_eq_true rfl) (Nat.le_of_ble_eq_true rfl) (by decide) (Or.inl rfl) ⟨Nat.le_refl _, Nat.le_refl _⟩ (fun l hl o ho => sp_X3_in hl ho) (fun v2 M1 => ?_)
    refine j_if_ne (pc := 13) C dX3_isSetting_13 (tgt := 50) (by decide) (fun hc3 => ?_) (fun hc3 => ?_)
    · refine j_iconst (pc := 50) C dX3_isSetting_50 (v := 1) rfl ?_
      refine j_goto (pc := 51) C dX3_isSetting_51 (tgt := 55) (by decide) ?_
      exact j_zreturn (pc := 55) C rfl dX3_isSetting_55 ⟨Nat.zero_le _, Nat.zero_le _⟩
    · exact t_X3_isSetting_b16 C  a0 a1 M1
theorem sp_X3_isSetting {l : Launch} {z : Sh9} {N : Nv9} {a0 : Int32} {a1 : Int32} {M : Mem9} {o : Out9 × Mem9} (hl : l.stackTraces = false) (h : f_X3_isSetting z a0 a1 M = some o) : Sp9 l z N yX3_isSetting (Cond.code yX3_isSetting cX3_isSetting 2 (some .boolean)) 1 [.int a0, .int a1] M (co9 o.1) o :=
  sp9_of (rk := 2) (own := RX3) (by decide +kernel) rfl (Or.inr (Or.inr (Or.inl ⟨rfl, rfl⟩))) hl (Nat.le_of_ble_eq_true rfl) (fun X C => t_X3_isSetting C a0 a1 M) h
def f_X3_whyOf (z : Sh9) (a0 : Nat) (a1 : Int32) (M : Mem9) : Re9 :=
  (bi9 (f_X3_of z a0 a1 (5 : Int32) M) fun v2 M1 => (if v2 = (1 : Int32) then (ri9 (4 : Int32) M1) else (bi9 (f_X3_reason z a0 a1 M1) fun v4 M3 => (ri9 v4 M3))))
set_option maxRecDepth 20000 in
set_option maxHeartbeats 4000000 in
theorem t_X3_whyOf {z : Sh9} {N : Nv9} {X : Cx9} {out : Out9 × Mem9} (C : OK9 z N X out 2 (co9 out.1) cX3_whyOf RX3 5 1 []) (a0 : Nat) (a1 : Int32) (M : Mem9) : J9 z N X out 2 0 [(0, .ref a0), (1, .int a1)] [] M (0, 0) (f_X3_whyOf z a0 a1 M) := by
  refine j_aload_n (pc := 0) C dX3_whyOf_0 rfl ?_
  refine j_iload_n (pc := 1) C dX3_whyOf_1 rfl ?_
  refine j_iconst (pc := 2) C dX3_whyOf_2 (v := 5) rfl ?_
  refine j_callSi (pc := 3) C rfl dX3_whyOf_3 ls_X3_48 rfl (Nat.le_of_ble_eq_true rfl) (Nat.le_of_ble_eq_true rfl) (by decide) (Or.inl rfl) ⟨Nat.le_refl _, Nat.le_refl _⟩ (fun l hl o ho => sp_X3_of hl ho) (fun v2 M1 => ?_)
  refine j_iconst (pc := 6) C dX3_whyOf_6 (v := 1) rfl ?_
  refine j_icmp_ne (pc := 7) C dX3_whyOf_7 (tgt := 14) (by decide) (fun hc5 => ?_) (fun hc5 => ?_)
  · refine j_aload_n (pc := 14) C dX3_whyOf_14 rfl ?_
    refine j_iload_n (pc := 15) C dX3_whyOf_15 rfl ?_
    refine j_callSi (pc := 16) C rfl dX3_whyOf_16 ls_X3_83 rfl (Nat.le_of_ble_eq_true rfl) (Nat.le_of_ble_eq_true rfl) (by decide) (Or.inl rfl) ⟨Nat.le_refl _, Nat.le_refl _⟩ (fun l hl o ho => sp_X3_reason hl ho) (fun v4 M3 => ?_)
    exact j_ireturn (pc := 19) C rfl dX3_whyOf_19 ⟨Nat.zero_le _, Nat.zero_le _⟩
  · refine j_iconst (pc := 10) C dX3_whyOf_10 (v := 4) rfl ?_
    refine j_goto (pc := 11) C dX3_whyOf_11 (tgt := 19) (by decide) ?_
    exact j_ireturn (pc := 19) C rfl dX3_whyOf_19 ⟨Nat.zero_le _, Nat.zero_le _⟩
theorem sp_X3_whyOf {l : Launch} {z : Sh9} {N : Nv9} {a0 : Nat} {a1 : Int32} {M : Mem9} {o : Out9 × Mem9} (hl : l.stackTraces = false) (h : f_X3_whyOf z a0 a1 M = some o) : Sp9 l z N yX3_whyOf (Cond.code yX3_whyOf cX3_whyOf 2 (some .int)) 5 [.ref a0, .int a1] M (co9 o.1) o :=
  sp9_of (rk := 1) (own := RX3) (by decide +kernel) rfl (Or.inr (Or.inl ⟨rfl, rfl⟩)) hl (Nat.le_of_ble_eq_true rfl) (fun X C => t_X3_whyOf C a0 a1 M) h
def f_X3_command_b212 (z : Sh9)  (s0 : Int32) (s1 : Int32) (s2 : Nat) (M : Mem9) : Re9 :=
  (bi9 (f_X3_loopOn z s2 s1 s0 M) fun v92 M91 => (if v92 < 0 then (rz9 (0 : Int32) M91) else (rz9 (1 : Int32) M91)))
set_option maxRecDepth 20000 in
set_option maxHeartbeats 4000000 in
theorem t_X3_command_b212 {z : Sh9} {N : Nv9} {X : Cx9} {out : Out9 × Mem9} (C : OK9 z N X out 7 (co9 out.1) cX3_command RX3 8 2 [])  (s0 : Int32) (s1 : Int32) (s2 : Nat) (M : Mem9) : J9 z N X out 7 212 [] [.int s0, .int s1, .ref s2] M (0, 0) (f_X3_command_b212 z  s0 s1 s2 M) := by
  refine j_callSi (pc := 212) C rfl dX3_command_212 ls_X3_167 rfl (Nat.le_of_ble_eq_true rfl) (Nat.le_of_ble_eq_true rfl) (by decide) (Or.inl rfl) ⟨Nat.le_refl _, Nat.le_refl _⟩ (fun l hl o ho => sp_X3_loopOn hl ho) (fun v92 M91 => ?_)
  refine j_if_lt (pc := 215) C dX3_command_215 (tgt := 222) (by decide) (fun hc93 => ?_) (fun hc93 => ?_)
  · refine j_iconst (pc := 222) C dX3_command_222 (v := 0) rfl ?_
    exact j_zreturn (pc := 223) C rfl dX3_command_223 ⟨Nat.zero_le _, Nat.zero_le _⟩
  · refine j_iconst (pc := 218) C dX3_command_218 (v := 1) rfl ?_
    refine j_goto (pc := 219) C dX3_command_219 (tgt := 223) (by decide) ?_
    exact j_zreturn (pc := 223) C rfl dX3_command_223 ⟨Nat.zero_le _, Nat.zero_le _⟩
def f_X3_command_b130 (z : Sh9)  (s0 : Int32) (s1 : Int32) (s2 : Int32) (s3 : Int32) (s4 : Nat) (M : Mem9) : Re9 :=
  (bi9 (f_X3_arriveOn z s4 s3 s2 s1 s0 M) fun v95 M94 => (if v95 ≤ 0 then (rz9 (0 : Int32) M94) else (rz9 (1 : Int32) M94)))
set_option maxRecDepth 20000 in
set_option maxHeartbeats 4000000 in
theorem t_X3_command_b130 {z : Sh9} {N : Nv9} {X : Cx9} {out : Out9 × Mem9} (C : OK9 z N X out 7 (co9 out.1) cX3_command RX3 8 2 [])  (s0 : Int32) (s1 : Int32) (s2 : Int32) (s3 : Int32) (s4 : Nat) (M : Mem9) : J9 z N X out 7 130 [] [.int s0, .int s1, .int s2, .int s3, .ref s4] M (0, 0) (f_X3_command_b130 z  s0 s1 s2 s3 s4 M) := by
  refine j_callSi (pc := 130) C rfl dX3_command_130 ls_X3_163 rfl (Nat.le_of_ble_eq_true rfl) (Nat.le_of_ble_eq_true rfl) (by decide) (Or.inl rfl) ⟨Nat.le_refl _, Nat.le_refl _⟩ (fun l hl o ho => sp_X3_arriveOn hl ho) (fun v95 M94 => ?_)
  refine j_if_le (pc := 133) C dX3_command_133 (tgt := 140) (by decide) (fun hc96 => ?_) (fun hc96 => ?_)
  · refine j_iconst (pc := 140) C dX3_command_140 (v := 0) rfl ?_
    exact j_zreturn (pc := 141) C rfl dX3_command_141 ⟨Nat.zero_le _, Nat.zero_le _⟩
  · refine j_iconst (pc := 136) C dX3_command_136 (v := 1) rfl ?_
    refine j_goto (pc := 137) C dX3_command_137 (tgt := 141) (by decide) ?_
    exact j_zreturn (pc := 141) C rfl dX3_command_141 ⟨Nat.zero_le _, Nat.zero_le _⟩
def f_X3_command_b119 (z : Sh9)  (x6 : Int32) (s0 : Int32) (s1 : Int32) (s2 : Int32) (s3 : Nat) (M : Mem9) : Re9 :=
  (if x6 ≤ (1 : Int32) then (f_X3_command_b130 z  (0 : Int32) s0 s1 s2 s3 M) else (f_X3_command_b130 z  (1 : Int32) s0 s1 s2 s3 M))
set_option maxRecDepth 20000 in
set_option maxHeartbeats 4000000 in
theorem t_X3_command_b119 {z : Sh9} {N : Nv9} {X : Cx9} {out : Out9 × Mem9} (C : OK9 z N X out 7 (co9 out.1) cX3_command RX3 8 2 [])  (x6 : Int32) (s0 : Int32) (s1 : Int32) (s2 : Int32) (s3 : Nat) (M : Mem9) : J9 z N X out 7 119 [(6, .int x6)] [.int s0, .int s1, .int s2, .ref s3] M (0, 0) (f_X3_command_b119 z  x6 s0 s1 s2 s3 M) := by
  refine j_iload (pc := 119) C dX3_command_119 rfl ?_
  refine j_iconst (pc := 121) C dX3_command_121 (v := 1) rfl ?_
  refine j_icmp_le (pc := 122) C dX3_command_122 (tgt := 129) (by decide) (fun hc90 => ?_) (fun hc90 => ?_)
  · refine j_iconst (pc := 129) C dX3_command_129 (v := 0) rfl ?_
    refine j_loc [] rfl ?_
    exact t_X3_command_b130 C  (0 : Int32) s0 s1 s2 s3 M
  · refine j_iconst (pc := 125) C dX3_command_125 (v := 1) rfl ?_
    refine j_goto (pc := 126) C dX3_command_126 (tgt := 130) (by decide) ?_
    refine j_loc [] rfl ?_
    exact t_X3_command_b130 C  (1 : Int32) s0 s1 s2 s3 M
def f_X3_command (z : Sh9) (a0 : Nat) (a1 : Int32) (a2 : Int32) (M : Mem9) : Re9 :=
  ((dv9 a2 (1000 : Int32)).bind fun v1 => ((dv9 a2 (100 : Int32)).bind fun v2 => ((rm9 v2 (10 : Int32)).bind fun v3 => ((dv9 a2 (10 : Int32)).bind fun v4 => ((rm9 v4 (100 : Int32)).bind fun v5 => ((rm9 a2 (10 : Int32)).bind fun v6 => (if a1 = (1 : Int32) then (if (4 : Int32) ≤ v6 then (rz9 (0 : Int32) M) else ((rf9 z a0 3 3).bind fun v7 => (bi9 (f_X3_canArrive z v7 v1 v5 M) fun v9 M8 => (if v9 = 0 then (rz9 (0 : Int32) M8) else ((rf9 z a0 3 3).bind fun v10 => ((rm9 v6 (2 : Int32)).bind fun v11 => (if v11 = (1 : Int32) then (f_X3_command_b119 z  v6 (1 : Int32) v5 v1 v10 M8) else (f_X3_command_b119 z  v6 (0 : Int32) v5 v1 v10 M8)))))))) else (if a1 = (2 : Int32) then (bi9 (f_X3_in z (Int32.toInt64 a2) (1 : Int64) (60 : Int64) M) fun v17 M16 => (if v17 = 0 then (rz9 (0 : Int32) M16) else ((rf9 z a0 3 3).bind fun v18 => (bi9 (iv9 z a0 3 (f_X3_runOn z a0 v18 a2 M16)) fun v20 M19 => (if v20 < 0 then (rz9 (0 : Int32) M19) else (rz9 (1 : Int32) M19)))))) else (if a1 = (3 : Int32) then (if (2 : Int32) ≤ v3 then (rz9 (0 : Int32) M) else ((rm9 a2 (100 : Int32)).bind fun v24 => (if v24 = 0 then ((rf9 z a0 3 3).bind fun v25 => (bi9 (f_X3_isLane z v25 v1 M) fun v27 M26 => (if v27 = 0 then (rz9 (0 : Int32) M26) else ((rf9 z a0 3 3).bind fun v28 => (if v3 = (1 : Int32) then (f_X3_command_b212 z  (1 : Int32) v1 v28 M26) else (f_X3_command_b212 z  (0 : Int32) v1 v28 M26)))))) else (rz9 (0 : Int32) M)))) else (if a1 = (4 : Int32) then ((rm9 a2 (1000 : Int32)).bind fun v34 => (if v34 = 0 then ((rf9 z a0 3 3).bind fun v35 => (bi9 (f_X3_canMend z v35 v1 M) fun v37 M36 => (if v37 = 0 then (rz9 (0 : Int32) M36) else ((rf9 z a0 3 3).bind fun v38 => (bi9 (f_X3_mendOn z v38 v1 M36) fun v40 M39 => (if v40 < 0 then (rz9 (0 : Int32) M39) else (rz9 (1 : Int32) M39))))))) else (rz9 (0 : Int32) M))) else (if a1 = (5 : Int32) then (if 0 < v6 then (rz9 (0 : Int32) M) else (bi9 (f_X3_isSetting z v1 v5 M) fun v46 M45 => (if v46 = 0 then (rz9 (0 : Int32) M45) else ((rf9 z a0 3 3).bind fun v47 => ((st9 z M45 v47 ((7 : Int32) + v1) v5).bind fun M48 => (rz9 (1 : Int32) M48)))))) else (if a1 = (6 : Int32) then ((rm9 a2 (100 : Int32)).bind fun v52 => (if v52 = 0 then ((rf9 z a0 3 3).bind fun v53 => (bi9 (f_X3_isLane z v53 v1 M) fun v55 M54 => (if v55 = 0 then (rz9 (0 : Int32) M54) else ((rf9 z a0 3 3).bind fun v56 => (bi9 (f_X3_of z v56 v1 (1 : Int32) M54) fun v58 M57 => (if v58 = v3 then (rz9 (1 : Int32) M57) else (rz9 (0 : Int32) M57))))))) else (rz9 (0 : Int32) M))) else (if a1 = (7 : Int32) then ((rm9 a2 (1000 : Int32)).bind fun v63 => (if (10 : Int32) ≤ v63 then (rz9 (0 : Int32) M) else ((rf9 z a0 3 3).bind fun v64 => (bi9 (f_X3_isLane z v64 v1 M) fun v66 M65 => (if v66 = 0 then (rz9 (0 : Int32) M65) else ((rf9 z a0 3 3).bind fun v67 => (bi9 (f_X3_of z v67 v1 (0 : Int32) M65) fun v69 M68 => (if v6 < v69 then (rz9 (0 : Int32) M68) else (rz9 (1 : Int32) M68))))))))) else (if a1 = (8 : Int32) then (if (100 : Int32) ≤ a2 then (rz9 (0 : Int32) M) else ((rf9 z a0 3 3).bind fun v74 => ((ld9 z M 10 v74 (4 : Int32)).bind fun v75 => (if a2 < v75 then (rz9 (0 : Int32) M) else (rz9 (1 : Int32) M))))) else (if a1 = (9 : Int32) then ((rm9 a2 (1000 : Int32)).bind fun v79 => (if (10 : Int32) ≤ v79 then (rz9 (0 : Int32) M) else ((rf9 z a0 3 3).bind fun v80 => (bi9 (f_X3_isLane z v80 v1 M) fun v82 M81 => (if v82 = 0 then (rz9 (0 : Int32) M81) else ((rf9 z a0 3 3).bind fun v83 => (bi9 (f_X3_whyOf z v83 v1 M81) fun v85 M84 => (if v85 = v6 then (rz9 (1 : Int32) M84) else (rz9 (0 : Int32) M84))))))))) else (rz9 (0 : Int32) M))))))))))))))))
set_option maxRecDepth 20000 in
set_option maxHeartbeats 4000000 in
theorem t_X3_command {z : Sh9} {N : Nv9} {X : Cx9} {out : Out9 × Mem9} (C : OK9 z N X out 7 (co9 out.1) cX3_command RX3 8 2 []) (a0 : Nat) (a1 : Int32) (a2 : Int32) (M : Mem9) : J9 z N X out 7 0 [(0, .ref a0), (1, .int a1), (2, .int a2)] [] M (0, 0) (f_X3_command z a0 a1 a2 M) := by
  refine j_iload_n (pc := 0) C dX3_command_0 rfl ?_
  refine j_sipush (pc := 1) C dX3_command_1 (v := 1000) rfl ?_
  refine j_idiv (pc := 4) C dX3_command_4 (fun v1 => ?_)
  refine j_istore_n (pc := 5) C dX3_command_5 (Nat.le_of_ble_eq_true rfl) (ls' := [(3, .int v1), (0, .ref a0), (1, .int a1), (2, .int a2)]) rfl ?_
  refine j_iload_n (pc := 6) C dX3_command_6 rfl ?_
  refine j_bipush (pc := 7) C dX3_command_7 (v := 100) rfl ?_
  refine j_idiv (pc := 9) C dX3_command_9 (fun v2 => ?_)
  refine j_bipush (pc := 10) C dX3_command_10 (v := 10) rfl ?_
  refine j_irem (pc := 12) C dX3_command_12 (fun v3 => ?_)
  refine j_istore (pc := 13) C dX3_command_13 (Nat.le_of_ble_eq_true rfl) (ls' := [(4, .int v3), (3, .int v1), (0, .ref a0), (1, .int a1), (2, .int a2)]) rfl ?_
  refine j_iload_n (pc := 15) C dX3_command_15 rfl ?_
  refine j_bipush (pc := 16) C dX3_command_16 (v := 10) rfl ?_
  refine j_idiv (pc := 18) C dX3_command_18 (fun v4 => ?_)
  refine j_bipush (pc := 19) C dX3_command_19 (v := 100) rfl ?_
  refine j_irem (pc := 21) C dX3_command_21 (fun v5 => ?_)
  refine j_istore (pc := 22) C dX3_command_22 (Nat.le_of_ble_eq_true rfl) (ls' := [(5, .int v5), (4, .int v3), (3, .int v1), (0, .ref a0), (1, .int a1), (2, .int a2)]) rfl ?_
  refine j_iload_n (pc := 24) C dX3_command_24 rfl ?_
  refine j_bipush (pc := 25) C dX3_command_25 (v := 10) rfl ?_
  refine j_irem (pc := 27) C dX3_command_27 (fun v6 => ?_)
  refine j_istore (pc := 28) C dX3_command_28 (Nat.le_of_ble_eq_true rfl) (ls' := [(6, .int v6), (5, .int v5), (4, .int v3), (3, .int v1), (0, .ref a0), (1, .int a1), (2, .int a2)]) rfl ?_
  refine j_iload_n (pc := 30) C dX3_command_30 rfl ?_
  refine j_ite (fun hc15 => ?_) (fun hc15 => ?_)
  · refine j_tsIn (pc := 31) C (1) dX3_command_31 (by rw [hc15]; rfl) (by decide) (off := 49) rfl (tgt := 80) (by decide) ?_
    refine j_iload (pc := 80) C dX3_command_80 rfl ?_
    refine j_iconst (pc := 82) C dX3_command_82 (v := 4) rfl ?_
    refine j_icmp_ge (pc := 83) C dX3_command_83 (tgt := 140) (by decide) (fun hc14 => ?_) (fun hc14 => ?_)
    · refine j_iconst (pc := 140) C dX3_command_140 (v := 0) rfl ?_
      exact j_zreturn (pc := 141) C rfl dX3_command_141 ⟨Nat.zero_le _, Nat.zero_le _⟩
    · refine j_aload_n (pc := 86) C dX3_command_86 rfl ?_
      refine j_getR (pc := 87) C dX3_command_87 fl_X3_16 fr_X3_4 (fun v7 => ?_)
      refine j_iload_n (pc := 90) C dX3_command_90 rfl ?_
      refine j_iload (pc := 91) C dX3_command_91 rfl ?_
      refine j_callSi (pc := 93) C rfl dX3_command_93 ls_X3_160 rfl (Nat.le_of_ble_eq_true rfl) (Nat.le_of_ble_eq_true rfl) (by decide) (Or.inl rfl) ⟨Nat.le_refl _, Nat.le_refl _⟩ (fun l hl o ho => sp_X3_canArrive hl ho) (fun v9 M8 => ?_)
      refine j_if_eq (pc := 96) C dX3_command_96 (tgt := 140) (by decide) (fun hc13 => ?_) (fun hc13 => ?_)
      · refine j_iconst (pc := 140) C dX3_command_140 (v := 0) rfl ?_
        exact j_zreturn (pc := 141) C rfl dX3_command_141 ⟨Nat.zero_le _, Nat.zero_le _⟩
      · refine j_aload_n (pc := 99) C dX3_command_99 rfl ?_
        refine j_getR (pc := 100) C dX3_command_100 fl_X3_16 fr_X3_4 (fun v10 => ?_)
        refine j_iload_n (pc := 103) C dX3_command_103 rfl ?_
        refine j_iload (pc := 104) C dX3_command_104 rfl ?_
        refine j_iload (pc := 106) C dX3_command_106 rfl ?_
        refine j_iconst (pc := 108) C dX3_command_108 (v := 2) rfl ?_
        refine j_irem (pc := 109) C dX3_command_109 (fun v11 => ?_)
        refine j_iconst (pc := 110) C dX3_command_110 (v := 1) rfl ?_
        refine j_icmp_ne (pc := 111) C dX3_command_111 (tgt := 118) (by decide) (fun hc12 => ?_) (fun hc12 => ?_)
        · refine j_iconst (pc := 118) C dX3_command_118 (v := 0) rfl ?_
          refine j_loc [0] rfl ?_
          exact t_X3_command_b119 C  v6 (0 : Int32) v5 v1 v10 M8
        · refine j_iconst (pc := 114) C dX3_command_114 (v := 1) rfl ?_
          refine j_goto (pc := 115) C dX3_command_115 (tgt := 119) (by decide) ?_
          refine j_loc [0] rfl ?_
          exact t_X3_command_b119 C  v6 (1 : Int32) v5 v1 v10 M8
  · refine j_ite (fun hc23 => ?_) (fun hc23 => ?_)
    · refine j_tsIn (pc := 31) C (2) dX3_command_31 (by rw [hc23]; rfl) (by decide) (off := 111) rfl (tgt := 142) (by decide) ?_
      refine j_iload_n (pc := 142) C dX3_command_142 rfl ?_
      refine j_i2l (pc := 143) C dX3_command_143 ?_
      refine j_lconst (pc := 144) C dX3_command_144 (v := 1) rfl ?_
      refine j_ldc2 (pc := 145) C dX3_command_145 (v := 60) w9_970 ?_
      refine j_callSi (pc := 148) C rfl dX3_command_148 ls_X3_40 rfl (Nat.le_of_ble_eq_true rfl) (Nat.le_of_ble_eq_true rfl) (by decide) (Or.inl rfl) ⟨Nat.le_refl _, Nat.le_refl _⟩ (fun l hl o ho => sp_X3_in hl ho) (fun v17 M16 => ?_)
      refine j_if_eq (pc := 151) C dX3_command_151 (tgt := 170) (by decide) (fun hc22 => ?_) (fun hc22 => ?_)
      · refine j_iconst (pc := 170) C dX3_command_170 (v := 0) rfl ?_
        exact j_zreturn (pc := 171) C rfl dX3_command_171 ⟨Nat.zero_le _, Nat.zero_le _⟩
      · refine j_aload_n (pc := 154) C dX3_command_154 rfl ?_
        refine j_aload_n (pc := 155) C dX3_command_155 rfl ?_
        refine j_getR (pc := 156) C dX3_command_156 fl_X3_16 fr_X3_4 (fun v18 => ?_)
        refine j_iload_n (pc := 159) C dX3_command_159 rfl ?_
        refine j_callVi (pc := 160) C rfl dX3_command_160 lv_X3_177 rfl (Nat.le_of_ble_eq_true rfl) (Nat.le_of_ble_eq_true rfl) (by decide) (Or.inl rfl) ⟨Nat.le_refl _, Nat.le_refl _⟩ (fun l hl o ho => sp_X3_runOn hl ho) (fun v20 M19 => ?_)
        refine j_if_lt (pc := 163) C dX3_command_163 (tgt := 170) (by decide) (fun hc21 => ?_) (fun hc21 => ?_)
        · refine j_iconst (pc := 170) C dX3_command_170 (v := 0) rfl ?_
          exact j_zreturn (pc := 171) C rfl dX3_command_171 ⟨Nat.zero_le _, Nat.zero_le _⟩
        · refine j_iconst (pc := 166) C dX3_command_166 (v := 1) rfl ?_
          refine j_goto (pc := 167) C dX3_command_167 (tgt := 171) (by decide) ?_
          exact j_zreturn (pc := 171) C rfl dX3_command_171 ⟨Nat.zero_le _, Nat.zero_le _⟩
    · refine j_ite (fun hc33 => ?_) (fun hc33 => ?_)
      · refine j_tsIn (pc := 31) C (3) dX3_command_31 (by rw [hc33]; rfl) (by decide) (off := 141) rfl (tgt := 172) (by decide) ?_
        refine j_iload (pc := 172) C dX3_command_172 rfl ?_
        refine j_iconst (pc := 174) C dX3_command_174 (v := 2) rfl ?_
        refine j_icmp_ge (pc := 175) C dX3_command_175 (tgt := 222) (by decide) (fun hc32 => ?_) (fun hc32 => ?_)
        · refine j_iconst (pc := 222) C dX3_command_222 (v := 0) rfl ?_
          exact j_zreturn (pc := 223) C rfl dX3_command_223 ⟨Nat.zero_le _, Nat.zero_le _⟩
        · refine j_iload_n (pc := 178) C dX3_command_178 rfl ?_
          refine j_bipush (pc := 179) C dX3_command_179 (v := 100) rfl ?_
          refine j_irem (pc := 181) C dX3_command_181 (fun v24 => ?_)
          refine j_if_ne (pc := 182) C dX3_command_182 (tgt := 222) (by decide) (fun hc31 => ?_) (fun hc31 => ?_)
          · refine j_iconst (pc := 222) C dX3_command_222 (v := 0) rfl ?_
            exact j_zreturn (pc := 223) C rfl dX3_command_223 ⟨Nat.zero_le _, Nat.zero_le _⟩
          · refine j_aload_n (pc := 185) C dX3_command_185 rfl ?_
            refine j_getR (pc := 186) C dX3_command_186 fl_X3_16 fr_X3_4 (fun v25 => ?_)
            refine j_iload_n (pc := 189) C dX3_command_189 rfl ?_
            refine j_callSi (pc := 190) C rfl dX3_command_190 ls_X3_44 rfl (Nat.le_of_ble_eq_true rfl) (Nat.le_of_ble_eq_true rfl) (by decide) (Or.inl rfl) ⟨Nat.le_refl _, Nat.le_refl _⟩ (fun l hl o ho => sp_X3_isLane hl ho) (fun v27 M26 => ?_)
            refine j_if_eq (pc := 193) C dX3_command_193 (tgt := 222) (by decide) (fun hc30 => ?_) (fun hc30 => ?_)
            · refine j_iconst (pc := 222) C dX3_command_222 (v := 0) rfl ?_
              exact j_zreturn (pc := 223) C rfl dX3_command_223 ⟨Nat.zero_le _, Nat.zero_le _⟩
            · refine j_aload_n (pc := 196) C dX3_command_196 rfl ?_
              refine j_getR (pc := 197) C dX3_command_197 fl_X3_16 fr_X3_4 (fun v28 => ?_)
              refine j_iload_n (pc := 200) C dX3_command_200 rfl ?_
              refine j_iload (pc := 201) C dX3_command_201 rfl ?_
              refine j_iconst (pc := 203) C dX3_command_203 (v := 1) rfl ?_
              refine j_icmp_ne (pc := 204) C dX3_command_204 (tgt := 211) (by decide) (fun hc29 => ?_) (fun hc29 => ?_)
              · refine j_iconst (pc := 211) C dX3_command_211 (v := 0) rfl ?_
                refine j_loc [] rfl ?_
                exact t_X3_command_b212 C  (0 : Int32) v1 v28 M26
              · refine j_iconst (pc := 207) C dX3_command_207 (v := 1) rfl ?_
                refine j_goto (pc := 208) C dX3_command_208 (tgt := 212) (by decide) ?_
                refine j_loc [] rfl ?_
                exact t_X3_command_b212 C  (1 : Int32) v1 v28 M26
      · refine j_ite (fun hc44 => ?_) (fun hc44 => ?_)
        · refine j_tsIn (pc := 31) C (4) dX3_command_31 (by rw [hc44]; rfl) (by decide) (off := 193) rfl (tgt := 224) (by decide) ?_
          refine j_iload_n (pc := 224) C dX3_command_224 rfl ?_
          refine j_sipush (pc := 225) C dX3_command_225 (v := 1000) rfl ?_
          refine j_irem (pc := 228) C dX3_command_228 (fun v34 => ?_)
          refine j_if_ne (pc := 229) C dX3_command_229 (tgt := 258) (by decide) (fun hc43 => ?_) (fun hc43 => ?_)
          · refine j_iconst (pc := 258) C dX3_command_258 (v := 0) rfl ?_
            exact j_zreturn (pc := 259) C rfl dX3_command_259 ⟨Nat.zero_le _, Nat.zero_le _⟩
          · refine j_aload_n (pc := 232) C dX3_command_232 rfl ?_
            refine j_getR (pc := 233) C dX3_command_233 fl_X3_16 fr_X3_4 (fun v35 => ?_)
            refine j_iload_n (pc := 236) C dX3_command_236 rfl ?_
            refine j_callSi (pc := 237) C rfl dX3_command_237 ls_X3_171 rfl (Nat.le_of_ble_eq_true rfl) (Nat.le_of_ble_eq_true rfl) (by decide) (Or.inl rfl) ⟨Nat.le_refl _, Nat.le_refl _⟩ (fun l hl o ho => sp_X3_canMend hl ho) (fun v37 M36 => ?_)
            refine j_if_eq (pc := 240) C dX3_command_240 (tgt := 258) (by decide) (fun hc42 => ?_) (fun hc42 => ?_)
            · refine j_iconst (pc := 258) C dX3_command_258 (v := 0) rfl ?_
              exact j_zreturn (pc := 259) C rfl dX3_command_259 ⟨Nat.zero_le _, Nat.zero_le _⟩
            · refine j_aload_n (pc := 243) C dX3_command_243 rfl ?_
              refine j_getR (pc := 244) C dX3_command_244 fl_X3_16 fr_X3_4 (fun v38 => ?_)
              refine j_iload_n (pc := 247) C dX3_command_247 rfl ?_
              refine j_callSi (pc := 248) C rfl dX3_command_248 ls_X3_174 rfl (Nat.le_of_ble_eq_true rfl) (Nat.le_of_ble_eq_true rfl) (by decide) (Or.inl rfl) ⟨Nat.le_refl _, Nat.le_refl _⟩ (fun l hl o ho => sp_X3_mendOn hl ho) (fun v40 M39 => ?_)
              refine j_if_lt (pc := 251) C dX3_command_251 (tgt := 258) (by decide) (fun hc41 => ?_) (fun hc41 => ?_)
              · refine j_iconst (pc := 258) C dX3_command_258 (v := 0) rfl ?_
                exact j_zreturn (pc := 259) C rfl dX3_command_259 ⟨Nat.zero_le _, Nat.zero_le _⟩
              · refine j_iconst (pc := 254) C dX3_command_254 (v := 1) rfl ?_
                refine j_goto (pc := 255) C dX3_command_255 (tgt := 259) (by decide) ?_
                exact j_zreturn (pc := 259) C rfl dX3_command_259 ⟨Nat.zero_le _, Nat.zero_le _⟩
        · refine j_ite (fun hc51 => ?_) (fun hc51 => ?_)
          · refine j_tsIn (pc := 31) C (5) dX3_command_31 (by rw [hc51]; rfl) (by decide) (off := 229) rfl (tgt := 260) (by decide) ?_
            refine j_iload (pc := 260) C dX3_command_260 rfl ?_
            refine j_if_gt (pc := 262) C dX3_command_262 (tgt := 274) (by decide) (fun hc50 => ?_) (fun hc50 => ?_)
            · refine j_iconst (pc := 274) C dX3_command_274 (v := 0) rfl ?_
              exact j_zreturn (pc := 275) C rfl dX3_command_275 ⟨Nat.zero_le _, Nat.zero_le _⟩
            · refine j_iload_n (pc := 265) C dX3_command_265 rfl ?_
              refine j_iload (pc := 266) C dX3_command_266 rfl ?_
              refine j_callSi (pc := 268) C rfl dX3_command_268 ls_X3_207 rfl (Nat.le_of_ble_eq_true rfl) (Nat.le_of_ble_eq_true rfl) (by decide) (Or.inl rfl) ⟨Nat.le_refl _, Nat.le_refl _⟩ (fun l hl o ho => sp_X3_isSetting hl ho) (fun v46 M45 => ?_)
              refine j_if_ne (pc := 271) C dX3_command_271 (tgt := 276) (by decide) (fun hc49 => ?_) (fun hc49 => ?_)
              · refine j_aload_n (pc := 276) C dX3_command_276 rfl ?_
                refine j_getR (pc := 277) C dX3_command_277 fl_X3_16 fr_X3_4 (fun v47 => ?_)
                refine j_bipush (pc := 280) C dX3_command_280 (v := 7) rfl ?_
                refine j_iload_n (pc := 282) C dX3_command_282 rfl ?_
                refine j_iadd (pc := 283) C dX3_command_283 ?_
                refine j_iload (pc := 284) C dX3_command_284 rfl ?_
                refine j_iastore (pc := 286) C dX3_command_286 (fun M48 => ?_)
                refine j_iconst (pc := 287) C dX3_command_287 (v := 1) rfl ?_
                exact j_zreturn (pc := 288) C rfl dX3_command_288 ⟨Nat.zero_le _, Nat.zero_le _⟩
              · refine j_iconst (pc := 274) C dX3_command_274 (v := 0) rfl ?_
                exact j_zreturn (pc := 275) C rfl dX3_command_275 ⟨Nat.zero_le _, Nat.zero_le _⟩
          · refine j_ite (fun hc62 => ?_) (fun hc62 => ?_)
            · refine j_tsIn (pc := 31) C (6) dX3_command_31 (by rw [hc62]; rfl) (by decide) (off := 258) rfl (tgt := 289) (by decide) ?_
              refine j_iload_n (pc := 289) C dX3_command_289 rfl ?_
              refine j_bipush (pc := 290) C dX3_command_290 (v := 100) rfl ?_
              refine j_irem (pc := 292) C dX3_command_292 (fun v52 => ?_)
              refine j_if_ne (pc := 293) C dX3_command_293 (tgt := 325) (by decide) (fun hc61 => ?_) (fun hc61 => ?_)
              · refine j_iconst (pc := 325) C dX3_command_325 (v := 0) rfl ?_
                exact j_zreturn (pc := 326) C rfl dX3_command_326 ⟨Nat.zero_le _, Nat.zero_le _⟩
              · refine j_aload_n (pc := 296) C dX3_command_296 rfl ?_
                refine j_getR (pc := 297) C dX3_command_297 fl_X3_16 fr_X3_4 (fun v53 => ?_)
                refine j_iload_n (pc := 300) C dX3_command_300 rfl ?_
                refine j_callSi (pc := 301) C rfl dX3_command_301 ls_X3_44 rfl (Nat.le_of_ble_eq_true rfl) (Nat.le_of_ble_eq_true rfl) (by decide) (Or.inl rfl) ⟨Nat.le_refl _, Nat.le_refl _⟩ (fun l hl o ho => sp_X3_isLane hl ho) (fun v55 M54 => ?_)
                refine j_if_eq (pc := 304) C dX3_command_304 (tgt := 325) (by decide) (fun hc60 => ?_) (fun hc60 => ?_)
                · refine j_iconst (pc := 325) C dX3_command_325 (v := 0) rfl ?_
                  exact j_zreturn (pc := 326) C rfl dX3_command_326 ⟨Nat.zero_le _, Nat.zero_le _⟩
                · refine j_aload_n (pc := 307) C dX3_command_307 rfl ?_
                  refine j_getR (pc := 308) C dX3_command_308 fl_X3_16 fr_X3_4 (fun v56 => ?_)
                  refine j_iload_n (pc := 311) C dX3_command_311 rfl ?_
                  refine j_iconst (pc := 312) C dX3_command_312 (v := 1) rfl ?_
                  refine j_callSi (pc := 313) C rfl dX3_command_313 ls_X3_48 rfl (Nat.le_of_ble_eq_true rfl) (Nat.le_of_ble_eq_true rfl) (by decide) (Or.inl rfl) ⟨Nat.le_refl _, Nat.le_refl _⟩ (fun l hl o ho => sp_X3_of hl ho) (fun v58 M57 => ?_)
                  refine j_iload (pc := 316) C dX3_command_316 rfl ?_
                  refine j_icmp_ne (pc := 318) C dX3_command_318 (tgt := 325) (by decide) (fun hc59 => ?_) (fun hc59 => ?_)
                  · refine j_iconst (pc := 325) C dX3_command_325 (v := 0) rfl ?_
                    exact j_zreturn (pc := 326) C rfl dX3_command_326 ⟨Nat.zero_le _, Nat.zero_le _⟩
                  · refine j_iconst (pc := 321) C dX3_command_321 (v := 1) rfl ?_
                    refine j_goto (pc := 322) C dX3_command_322 (tgt := 326) (by decide) ?_
                    exact j_zreturn (pc := 326) C rfl dX3_command_326 ⟨Nat.zero_le _, Nat.zero_le _⟩
            · refine j_ite (fun hc73 => ?_) (fun hc73 => ?_)
              · refine j_tsIn (pc := 31) C (7) dX3_command_31 (by rw [hc73]; rfl) (by decide) (off := 296) rfl (tgt := 327) (by decide) ?_
                refine j_iload_n (pc := 327) C dX3_command_327 rfl ?_
                refine j_sipush (pc := 328) C dX3_command_328 (v := 1000) rfl ?_
                refine j_irem (pc := 331) C dX3_command_331 (fun v63 => ?_)
                refine j_bipush (pc := 332) C dX3_command_332 (v := 10) rfl ?_
                refine j_icmp_ge (pc := 334) C dX3_command_334 (tgt := 366) (by decide) (fun hc72 => ?_) (fun hc72 => ?_)
                · refine j_iconst (pc := 366) C dX3_command_366 (v := 0) rfl ?_
                  exact j_zreturn (pc := 367) C rfl dX3_command_367 ⟨Nat.zero_le _, Nat.zero_le _⟩
                · refine j_aload_n (pc := 337) C dX3_command_337 rfl ?_
                  refine j_getR (pc := 338) C dX3_command_338 fl_X3_16 fr_X3_4 (fun v64 => ?_)
                  refine j_iload_n (pc := 341) C dX3_command_341 rfl ?_
                  refine j_callSi (pc := 342) C rfl dX3_command_342 ls_X3_44 rfl (Nat.le_of_ble_eq_true rfl) (Nat.le_of_ble_eq_true rfl) (by decide) (Or.inl rfl) ⟨Nat.le_refl _, Nat.le_refl _⟩ (fun l hl o ho => sp_X3_isLane hl ho) (fun v66 M65 => ?_)
                  refine j_if_eq (pc := 345) C dX3_command_345 (tgt := 366) (by decide) (fun hc71 => ?_) (fun hc71 => ?_)
                  · refine j_iconst (pc := 366) C dX3_command_366 (v := 0) rfl ?_
                    exact j_zreturn (pc := 367) C rfl dX3_command_367 ⟨Nat.zero_le _, Nat.zero_le _⟩
                  · refine j_aload_n (pc := 348) C dX3_command_348 rfl ?_
                    refine j_getR (pc := 349) C dX3_command_349 fl_X3_16 fr_X3_4 (fun v67 => ?_)
                    refine j_iload_n (pc := 352) C dX3_command_352 rfl ?_
                    refine j_iconst (pc := 353) C dX3_command_353 (v := 0) rfl ?_
                    refine j_callSi (pc := 354) C rfl dX3_command_354 ls_X3_48 rfl (Nat.le_of_ble_eq_true rfl) (Nat.le_of_ble_eq_true rfl) (by decide) (Or.inl rfl) ⟨Nat.le_refl _, Nat.le_refl _⟩ (fun l hl o ho => sp_X3_of hl ho) (fun v69 M68 => ?_)
                    refine j_iload (pc := 357) C dX3_command_357 rfl ?_
                    refine j_icmp_gt (pc := 359) C dX3_command_359 (tgt := 366) (by decide) (fun hc70 => ?_) (fun hc70 => ?_)
                    · refine j_iconst (pc := 366) C dX3_command_366 (v := 0) rfl ?_
                      exact j_zreturn (pc := 367) C rfl dX3_command_367 ⟨Nat.zero_le _, Nat.zero_le _⟩
                    · refine j_iconst (pc := 362) C dX3_command_362 (v := 1) rfl ?_
                      refine j_goto (pc := 363) C dX3_command_363 (tgt := 367) (by decide) ?_
                      exact j_zreturn (pc := 367) C rfl dX3_command_367 ⟨Nat.zero_le _, Nat.zero_le _⟩
              · refine j_ite (fun hc78 => ?_) (fun hc78 => ?_)
                · refine j_tsIn (pc := 31) C (8) dX3_command_31 (by rw [hc78]; rfl) (by decide) (off := 337) rfl (tgt := 368) (by decide) ?_
                  refine j_iload_n (pc := 368) C dX3_command_368 rfl ?_
                  refine j_bipush (pc := 369) C dX3_command_369 (v := 100) rfl ?_
                  refine j_icmp_ge (pc := 371) C dX3_command_371 (tgt := 388) (by decide) (fun hc77 => ?_) (fun hc77 => ?_)
                  · refine j_iconst (pc := 388) C dX3_command_388 (v := 0) rfl ?_
                    exact j_zreturn (pc := 389) C rfl dX3_command_389 ⟨Nat.zero_le _, Nat.zero_le _⟩
                  · refine j_aload_n (pc := 374) C dX3_command_374 rfl ?_
                    refine j_getR (pc := 375) C dX3_command_375 fl_X3_16 fr_X3_4 (fun v74 => ?_)
                    refine j_iconst (pc := 378) C dX3_command_378 (v := 4) rfl ?_
                    refine j_iaload (pc := 379) C dX3_command_379 (fun v75 => ?_)
                    refine j_iload_n (pc := 380) C dX3_command_380 rfl ?_
                    refine j_icmp_gt (pc := 381) C dX3_command_381 (tgt := 388) (by decide) (fun hc76 => ?_) (fun hc76 => ?_)
                    · refine j_iconst (pc := 388) C dX3_command_388 (v := 0) rfl ?_
                      exact j_zreturn (pc := 389) C rfl dX3_command_389 ⟨Nat.zero_le _, Nat.zero_le _⟩
                    · refine j_iconst (pc := 384) C dX3_command_384 (v := 1) rfl ?_
                      refine j_goto (pc := 385) C dX3_command_385 (tgt := 389) (by decide) ?_
                      exact j_zreturn (pc := 389) C rfl dX3_command_389 ⟨Nat.zero_le _, Nat.zero_le _⟩
                · refine j_ite (fun hc89 => ?_) (fun hc89 => ?_)
                  · refine j_tsIn (pc := 31) C (9) dX3_command_31 (by rw [hc89]; rfl) (by decide) (off := 359) rfl (tgt := 390) (by decide) ?_
                    refine j_iload_n (pc := 390) C dX3_command_390 rfl ?_
                    refine j_sipush (pc := 391) C dX3_command_391 (v := 1000) rfl ?_
                    refine j_irem (pc := 394) C dX3_command_394 (fun v79 => ?_)
                    refine j_bipush (pc := 395) C dX3_command_395 (v := 10) rfl ?_
                    refine j_icmp_ge (pc := 397) C dX3_command_397 (tgt := 428) (by decide) (fun hc88 => ?_) (fun hc88 => ?_)
                    · refine j_iconst (pc := 428) C dX3_command_428 (v := 0) rfl ?_
                      exact j_zreturn (pc := 429) C rfl dX3_command_429 ⟨Nat.zero_le _, Nat.zero_le _⟩
                    · refine j_aload_n (pc := 400) C dX3_command_400 rfl ?_
                      refine j_getR (pc := 401) C dX3_command_401 fl_X3_16 fr_X3_4 (fun v80 => ?_)
                      refine j_iload_n (pc := 404) C dX3_command_404 rfl ?_
                      refine j_callSi (pc := 405) C rfl dX3_command_405 ls_X3_44 rfl (Nat.le_of_ble_eq_true rfl) (Nat.le_of_ble_eq_true rfl) (by decide) (Or.inl rfl) ⟨Nat.le_refl _, Nat.le_refl _⟩ (fun l hl o ho => sp_X3_isLane hl ho) (fun v82 M81 => ?_)
                      refine j_if_eq (pc := 408) C dX3_command_408 (tgt := 428) (by decide) (fun hc87 => ?_) (fun hc87 => ?_)
                      · refine j_iconst (pc := 428) C dX3_command_428 (v := 0) rfl ?_
                        exact j_zreturn (pc := 429) C rfl dX3_command_429 ⟨Nat.zero_le _, Nat.zero_le _⟩
                      · refine j_aload_n (pc := 411) C dX3_command_411 rfl ?_
                        refine j_getR (pc := 412) C dX3_command_412 fl_X3_16 fr_X3_4 (fun v83 => ?_)
                        refine j_iload_n (pc := 415) C dX3_command_415 rfl ?_
                        refine j_callSi (pc := 416) C rfl dX3_command_416 ls_X3_201 rfl (Nat.le_of_ble_eq_true rfl) (Nat.le_of_ble_eq_true rfl) (by decide) (Or.inl rfl) ⟨Nat.le_refl _, Nat.le_refl _⟩ (fun l hl o ho => sp_X3_whyOf hl ho) (fun v85 M84 => ?_)
                        refine j_iload (pc := 419) C dX3_command_419 rfl ?_
                        refine j_icmp_ne (pc := 421) C dX3_command_421 (tgt := 428) (by decide) (fun hc86 => ?_) (fun hc86 => ?_)
                        · refine j_iconst (pc := 428) C dX3_command_428 (v := 0) rfl ?_
                          exact j_zreturn (pc := 429) C rfl dX3_command_429 ⟨Nat.zero_le _, Nat.zero_le _⟩
                        · refine j_iconst (pc := 424) C dX3_command_424 (v := 1) rfl ?_
                          refine j_goto (pc := 425) C dX3_command_425 (tgt := 429) (by decide) ?_
                          exact j_zreturn (pc := 429) C rfl dX3_command_429 ⟨Nat.zero_le _, Nat.zero_le _⟩
                  · refine j_tsOut (pc := 31) C dX3_command_31 (by have qhc15 := ne9 (k := 1) hc15 rfl; have qhc23 := ne9 (k := 2) hc23 rfl; have qhc33 := ne9 (k := 3) hc33 rfl; have qhc44 := ne9 (k := 4) hc44 rfl; have qhc51 := ne9 (k := 5) hc51 rfl; have qhc62 := ne9 (k := 6) hc62 rfl; have qhc73 := ne9 (k := 7) hc73 rfl; have qhc78 := ne9 (k := 8) hc78 rfl; have qhc89 := ne9 (k := 9) hc89 rfl; omega) (tgt := 430) (by decide) ?_
                    refine j_iconst (pc := 430) C dX3_command_430 (v := 0) rfl ?_
                    exact j_zreturn (pc := 431) C rfl dX3_command_431 ⟨Nat.zero_le _, Nat.zero_le _⟩
theorem sp_X3_command {l : Launch} {z : Sh9} {N : Nv9} {a0 : Nat} {a1 : Int32} {a2 : Int32} {M : Mem9} {o : Out9 × Mem9} (hl : l.stackTraces = false) (h : f_X3_command z a0 a1 a2 M = some o) : Sp9 l z N yX3_command (Cond.code yX3_command cX3_command 7 (some .boolean)) 8 [.ref a0, .int a1, .int a2] M (co9 o.1) o :=
  sp9_of (rk := 2) (own := RX3) (by decide +kernel) rfl (Or.inr (Or.inr (Or.inl ⟨rfl, rfl⟩))) hl (Nat.le_of_ble_eq_true rfl) (fun X C => t_X3_command C a0 a1 a2 M) h
def f_X3_runScript_b86 (z : Sh9) (r86 : Nat → Int32 → Int64 → Int64 → Int32 → Mem9 → Re9) (x0 : Nat) (x1 : Int32) (x2 : Int64) (x4 : Int64) (x6 : Int32) (M : Mem9) : Re9 :=
  (if x1 ≤ x6 then (ri9 (-1 : Int32) M) else ((dl9 x4 (100000 : Int64)).bind fun v16 => ((dl9 x2 v16).bind fun v17 => ((rl9 v17 (100000 : Int64)).bind fun v18 => (nm9 (Int64.toInt32 v18) fun (y19 : Int32) => ((dv9 y19 (10000 : Int32)).bind fun v20 => ((rm9 y19 (10000 : Int32)).bind fun v21 => (bi9 (iv9 z x0 3 (f_X3_command z x0 v20 v21 M)) fun v23 M22 => (if v23 = 0 then (ri9 x6 M22) else (r86 x0 x1 x2 v16 (x6 + (1 : Int32)) M22))))))))))
set_option maxRecDepth 20000 in
set_option maxHeartbeats 4000000 in
theorem t_X3_runScript_b86 {z : Sh9} {N : Nv9} {X : Cx9} {out : Out9 × Mem9} (C : OK9 z N X out 8 (co9 out.1) cX3_runScript RX3 9 1 []) {r86 : Nat → Int32 → Int64 → Int64 → Int32 → Mem9 → Re9} (h86 : ∀ (x0 : Nat) (x1 : Int32) (x2 : Int64) (x4 : Int64) (x6 : Int32) (M : Mem9), J9 z N X out 8 86 [(0, .ref x0), (1, .int x1), (2, .long x2), (4, .long x4), (6, .int x6)] [] M (0, 0) (r86 x0 x1 x2 x4 x6 M)) (x0 : Nat) (x1 : Int32) (x2 : Int64) (x4 : Int64) (x6 : Int32) (M : Mem9) : J9 z N X out 8 86 [(0, .ref x0), (1, .int x1), (2, .long x2), (4, .long x4), (6, .int x6)] [] M (0, 0) (f_X3_runScript_b86 z r86 x0 x1 x2 x4 x6 M) := by
  refine j_iload (pc := 86) C dX3_runScript_86 rfl ?_
  refine j_iload_n (pc := 88) C dX3_runScript_88 rfl ?_
  refine j_icmp_ge (pc := 89) C dX3_runScript_89 (tgt := 139) (by decide) (fun hc25 => ?_) (fun hc25 => ?_)
  · refine j_iconst (pc := 139) C dX3_runScript_139 (v := -1) rfl ?_
    exact j_ireturn (pc := 140) C rfl dX3_runScript_140 ⟨Nat.zero_le _, Nat.zero_le _⟩
  · refine j_lload (pc := 92) C dX3_runScript_92 rfl ?_
    refine j_ldc2 (pc := 94) C dX3_runScript_94 (v := 100000) w9_1012 ?_
    refine j_ldiv (pc := 97) C dX3_runScript_97 (fun v16 => ?_)
    refine j_lstore (pc := 98) C dX3_runScript_98 (Nat.le_of_ble_eq_true rfl) (ls' := [(4, .long v16), (0, .ref x0), (1, .int x1), (2, .long x2), (6, .int x6)]) rfl ?_
    refine j_lload_n (pc := 100) C dX3_runScript_100 rfl ?_
    refine j_lload (pc := 101) C dX3_runScript_101 rfl ?_
    refine j_ldiv (pc := 103) C dX3_runScript_103 (fun v17 => ?_)
    refine j_ldc2 (pc := 104) C dX3_runScript_104 (v := 100000) w9_1012 ?_
    refine j_lrem (pc := 107) C dX3_runScript_107 (fun v18 => ?_)
    refine j_l2i (pc := 108) C dX3_runScript_108 ?_
    refine j_nm (st' := fun x9 : Int32 => .int x9 :: []) rfl (fun y19 => ?_)
    refine j_istore (pc := 109) C dX3_runScript_109 (Nat.le_of_ble_eq_true rfl) (ls' := [(7, .int y19), (4, .long v16), (0, .ref x0), (1, .int x1), (2, .long x2), (6, .int x6)]) rfl ?_
    refine j_aload_n (pc := 111) C dX3_runScript_111 rfl ?_
    refine j_iload (pc := 112) C dX3_runScript_112 rfl ?_
    refine j_sipush (pc := 114) C dX3_runScript_114 (v := 10000) rfl ?_
    refine j_idiv (pc := 117) C dX3_runScript_117 (fun v20 => ?_)
    refine j_iload (pc := 118) C dX3_runScript_118 rfl ?_
    refine j_sipush (pc := 120) C dX3_runScript_120 (v := 10000) rfl ?_
    refine j_irem (pc := 123) C dX3_runScript_123 (fun v21 => ?_)
    refine j_callVi (pc := 124) C rfl dX3_runScript_124 lv_X3_220 rfl (Nat.le_of_ble_eq_true rfl) (Nat.le_of_ble_eq_true rfl) (by decide) (Or.inl rfl) ⟨Nat.le_refl _, Nat.le_refl _⟩ (fun l hl o ho => sp_X3_command hl ho) (fun v23 M22 => ?_)
    refine j_if_ne (pc := 127) C dX3_runScript_127 (tgt := 133) (by decide) (fun hc24 => ?_) (fun hc24 => ?_)
    · refine j_iinc (pc := 133) C dX3_runScript_133 rfl (v := (x6 + (1 : Int32))) rfl (Nat.le_of_ble_eq_true rfl) (ls' := [(6, .int (x6 + (1 : Int32))), (7, .int y19), (4, .long v16), (0, .ref x0), (1, .int x1), (2, .long x2)]) rfl ?_
      refine j_goto (pc := 136) C dX3_runScript_136 (tgt := 86) (by decide) ?_
      refine j_loc [3, 4, 5, 2, 0] rfl ?_
      exact h86 x0 x1 x2 v16 (x6 + (1 : Int32)) M22
    · refine j_iload (pc := 130) C dX3_runScript_130 rfl ?_
      exact j_ireturn (pc := 132) C rfl dX3_runScript_132 ⟨Nat.zero_le _, Nat.zero_le _⟩
theorem t_X3_runScript_l86 {z : Sh9} {N : Nv9} {X : Cx9} {out : Out9 × Mem9} (C : OK9 z N X out 8 (co9 out.1) cX3_runScript RX3 9 1 [])  : ∀ (n : Nat) (x0 : Nat) (x1 : Int32) (x2 : Int64) (x4 : Int64) (x6 : Int32) (M : Mem9), J9 z N X out 8 86 [(0, .ref x0), (1, .int x1), (2, .long x2), (4, .long x4), (6, .int x6)] [] M (0, 0) (fx9 (fun _ _ _ _ _ _ => none) (f_X3_runScript_b86 z ) n x0 x1 x2 x4 x6 M) := by
  intro n
  induction n with
  | zero => intro x0 x1 x2 x4 x6 M; exact j_none
  | succ n ih => intro x0 x1 x2 x4 x6 M; exact t_X3_runScript_b86 C  ih x0 x1 x2 x4 x6 M
def f_X3_runScript_b62 (z : Sh9)  (x0 : Nat) (x1 : Int32) (x2 : Int64) (x4 : Int64) (s0 : Int32) (s1 : Nat) (M : Mem9) : Re9 :=
  (bi9 (iv9 z s1 3 (f_X3_refused z s1 s0 M)) fun v11 M10 => (if v11 = 0 then ((rf9 z x0 3 2).bind fun v12 => ((rf9 z x0 3 3).bind fun v13 => (bv9 (f_X3_copyState z v12 (0 : Int32) v13 (0 : Int32) M10) fun M14 => (fx9 (fun _ _ _ _ _ _ => none) (f_X3_runScript_b86 z ) FU9 x0 x1 x2 x4 (0 : Int32) M14)))) else (ri9 (0 : Int32) M10)))
set_option maxRecDepth 20000 in
set_option maxHeartbeats 4000000 in
theorem t_X3_runScript_b62 {z : Sh9} {N : Nv9} {X : Cx9} {out : Out9 × Mem9} (C : OK9 z N X out 8 (co9 out.1) cX3_runScript RX3 9 1 [])  (x0 : Nat) (x1 : Int32) (x2 : Int64) (x4 : Int64) (s0 : Int32) (s1 : Nat) (M : Mem9) : J9 z N X out 8 62 [(0, .ref x0), (1, .int x1), (2, .long x2), (4, .long x4)] [.int s0, .ref s1] M (0, 0) (f_X3_runScript_b62 z  x0 x1 x2 x4 s0 s1 M) := by
  refine j_callVi (pc := 62) C rfl dX3_runScript_62 lv_X3_130 rfl (Nat.le_of_ble_eq_true rfl) (Nat.le_of_ble_eq_true rfl) (by decide) (Or.inl rfl) ⟨Nat.le_refl _, Nat.le_refl _⟩ (fun l hl o ho => sp_X3_refused hl ho) (fun v11 M10 => ?_)
  refine j_if_eq (pc := 65) C dX3_runScript_65 (tgt := 70) (by decide) (fun hc15 => ?_) (fun hc15 => ?_)
  · refine j_aload_n (pc := 70) C dX3_runScript_70 rfl ?_
    refine j_getR (pc := 71) C dX3_runScript_71 fl_X3_13 fr_X3_3 (fun v12 => ?_)
    refine j_iconst (pc := 74) C dX3_runScript_74 (v := 0) rfl ?_
    refine j_aload_n (pc := 75) C dX3_runScript_75 rfl ?_
    refine j_getR (pc := 76) C dX3_runScript_76 fl_X3_16 fr_X3_4 (fun v13 => ?_)
    refine j_iconst (pc := 79) C dX3_runScript_79 (v := 0) rfl ?_
    refine j_callSv (pc := 80) C rfl dX3_runScript_80 ls_X3_187 rfl (Nat.le_of_ble_eq_true rfl) (Nat.le_of_ble_eq_true rfl) (by decide) (Or.inl rfl) ⟨Nat.le_refl _, Nat.le_refl _⟩ (fun l hl o ho => sp_X3_copyState hl ho) (fun M14 => ?_)
    refine j_iconst (pc := 83) C dX3_runScript_83 (v := 0) rfl ?_
    refine j_istore (pc := 84) C dX3_runScript_84 (Nat.le_of_ble_eq_true rfl) (ls' := [(6, .int (0 : Int32)), (0, .ref x0), (1, .int x1), (2, .long x2), (4, .long x4)]) rfl ?_
    refine j_loc [1, 2, 3, 4, 0] rfl ?_
    exact t_X3_runScript_l86 C  FU9 x0 x1 x2 x4 (0 : Int32) M14
  · refine j_iconst (pc := 68) C dX3_runScript_68 (v := 0) rfl ?_
    exact j_ireturn (pc := 69) C rfl dX3_runScript_69 ⟨Nat.zero_le _, Nat.zero_le _⟩
def f_X3_runScript_b61 (z : Sh9)  (x0 : Nat) (x1 : Int32) (x2 : Int64) (x4 : Int64) (s0 : Nat) (M : Mem9) : Re9 :=
  (f_X3_runScript_b62 z  x0 x1 x2 x4 (1 : Int32) s0 M)
set_option maxRecDepth 20000 in
set_option maxHeartbeats 4000000 in
theorem t_X3_runScript_b61 {z : Sh9} {N : Nv9} {X : Cx9} {out : Out9 × Mem9} (C : OK9 z N X out 8 (co9 out.1) cX3_runScript RX3 9 1 [])  (x0 : Nat) (x1 : Int32) (x2 : Int64) (x4 : Int64) (s0 : Nat) (M : Mem9) : J9 z N X out 8 61 [(0, .ref x0), (1, .int x1), (2, .long x2), (4, .long x4)] [.ref s0] M (0, 0) (f_X3_runScript_b61 z  x0 x1 x2 x4 s0 M) := by
  refine j_iconst (pc := 61) C dX3_runScript_61 (v := 1) rfl ?_
  exact t_X3_runScript_b62 C  x0 x1 x2 x4 (1 : Int32) s0 M
def f_X3_runScript_b32 (z : Sh9)  (x0 : Nat) (x1 : Int32) (x2 : Int64) (x4 : Int64) (M : Mem9) : Re9 :=
  (bi9 (f_X3_in z (Int32.toInt64 x1) (1 : Int64) (3 : Int64) M) fun v5 M4 => (if v5 = 0 then (f_X3_runScript_b61 z  x0 x1 x2 x4 x0 M4) else (bi9 (f_X3_in z x2 (0 : Int64) (x4 - (1 : Int64)) M4) fun v7 M6 => (if v7 = 0 then (f_X3_runScript_b61 z  x0 x1 x2 x4 x0 M6) else (f_X3_runScript_b62 z  x0 x1 x2 x4 (0 : Int32) x0 M6)))))
set_option maxRecDepth 20000 in
set_option maxHeartbeats 4000000 in
theorem t_X3_runScript_b32 {z : Sh9} {N : Nv9} {X : Cx9} {out : Out9 × Mem9} (C : OK9 z N X out 8 (co9 out.1) cX3_runScript RX3 9 1 [])  (x0 : Nat) (x1 : Int32) (x2 : Int64) (x4 : Int64) (M : Mem9) : J9 z N X out 8 32 [(0, .ref x0), (1, .int x1), (2, .long x2), (4, .long x4)] [] M (0, 0) (f_X3_runScript_b32 z  x0 x1 x2 x4 M) := by
  refine j_aload_n (pc := 32) C dX3_runScript_32 rfl ?_
  refine j_iload_n (pc := 33) C dX3_runScript_33 rfl ?_
  refine j_i2l (pc := 34) C dX3_runScript_34 ?_
  refine j_lconst (pc := 35) C dX3_runScript_35 (v := 1) rfl ?_
  refine j_ldc2 (pc := 36) C dX3_runScript_36 (v := 3) w9_1013 ?_
  refine j_callSi (pc := 39) C rfl dX3_runScript_39 ls_X3_40 rfl (Nat.le_of_ble_eq_true rfl) (Nat.le_of_ble_eq_true rfl) (by decide) (Or.inl rfl) ⟨Nat.le_refl _, Nat.le_refl _⟩ (fun l hl o ho => sp_X3_in hl ho) (fun v5 M4 => ?_)
  refine j_if_eq (pc := 42) C dX3_runScript_42 (tgt := 61) (by decide) (fun hc9 => ?_) (fun hc9 => ?_)
  · exact t_X3_runScript_b61 C  x0 x1 x2 x4 x0 M4
  · refine j_lload_n (pc := 45) C dX3_runScript_45 rfl ?_
    refine j_lconst (pc := 46) C dX3_runScript_46 (v := 0) rfl ?_
    refine j_lload (pc := 47) C dX3_runScript_47 rfl ?_
    refine j_lconst (pc := 49) C dX3_runScript_49 (v := 1) rfl ?_
    refine j_lsub (pc := 50) C dX3_runScript_50 ?_
    refine j_callSi (pc := 51) C rfl dX3_runScript_51 ls_X3_40 rfl (Nat.le_of_ble_eq_true rfl) (Nat.le_of_ble_eq_true rfl) (by decide) (Or.inl rfl) ⟨Nat.le_refl _, Nat.le_refl _⟩ (fun l hl o ho => sp_X3_in hl ho) (fun v7 M6 => ?_)
    refine j_if_eq (pc := 54) C dX3_runScript_54 (tgt := 61) (by decide) (fun hc8 => ?_) (fun hc8 => ?_)
    · exact t_X3_runScript_b61 C  x0 x1 x2 x4 x0 M6
    · refine j_iconst (pc := 57) C dX3_runScript_57 (v := 0) rfl ?_
      refine j_goto (pc := 58) C dX3_runScript_58 (tgt := 62) (by decide) ?_
      exact t_X3_runScript_b62 C  x0 x1 x2 x4 (0 : Int32) x0 M6
def f_X3_runScript_b6 (z : Sh9) (r6 : Nat → Int32 → Int64 → Int64 → Int32 → Mem9 → Re9) (x0 : Nat) (x1 : Int32) (x2 : Int64) (x4 : Int64) (x6 : Int32) (M : Mem9) : Re9 :=
  (if x1 ≤ x6 then (f_X3_runScript_b32 z  x0 x1 x2 x4 M) else (if (3 : Int32) ≤ x6 then (f_X3_runScript_b32 z  x0 x1 x2 x4 M) else (nm9 (x4 * (100000 : Int64)) fun (y1 : Int64) => (r6 x0 x1 x2 y1 (x6 + (1 : Int32)) M))))
set_option maxRecDepth 20000 in
set_option maxHeartbeats 4000000 in
theorem t_X3_runScript_b6 {z : Sh9} {N : Nv9} {X : Cx9} {out : Out9 × Mem9} (C : OK9 z N X out 8 (co9 out.1) cX3_runScript RX3 9 1 []) {r6 : Nat → Int32 → Int64 → Int64 → Int32 → Mem9 → Re9} (h6 : ∀ (x0 : Nat) (x1 : Int32) (x2 : Int64) (x4 : Int64) (x6 : Int32) (M : Mem9), J9 z N X out 8 6 [(0, .ref x0), (1, .int x1), (2, .long x2), (4, .long x4), (6, .int x6)] [] M (0, 0) (r6 x0 x1 x2 x4 x6 M)) (x0 : Nat) (x1 : Int32) (x2 : Int64) (x4 : Int64) (x6 : Int32) (M : Mem9) : J9 z N X out 8 6 [(0, .ref x0), (1, .int x1), (2, .long x2), (4, .long x4), (6, .int x6)] [] M (0, 0) (f_X3_runScript_b6 z r6 x0 x1 x2 x4 x6 M) := by
  refine j_iload (pc := 6) C dX3_runScript_6 rfl ?_
  refine j_iload_n (pc := 8) C dX3_runScript_8 rfl ?_
  refine j_icmp_ge (pc := 9) C dX3_runScript_9 (tgt := 32) (by decide) (fun hc3 => ?_) (fun hc3 => ?_)
  · refine j_loc [0, 1, 2, 3] rfl ?_
    exact t_X3_runScript_b32 C  x0 x1 x2 x4 M
  · refine j_iload (pc := 12) C dX3_runScript_12 rfl ?_
    refine j_iconst (pc := 14) C dX3_runScript_14 (v := 3) rfl ?_
    refine j_icmp_ge (pc := 15) C dX3_runScript_15 (tgt := 32) (by decide) (fun hc2 => ?_) (fun hc2 => ?_)
    · refine j_loc [0, 1, 2, 3] rfl ?_
      exact t_X3_runScript_b32 C  x0 x1 x2 x4 M
    · refine j_lload (pc := 18) C dX3_runScript_18 rfl ?_
      refine j_ldc2 (pc := 20) C dX3_runScript_20 (v := 100000) w9_1012 ?_
      refine j_lmul (pc := 23) C dX3_runScript_23 ?_
      refine j_nm (st' := fun x9 : Int64 => .long x9 :: []) rfl (fun y1 => ?_)
      refine j_lstore (pc := 24) C dX3_runScript_24 (Nat.le_of_ble_eq_true rfl) (ls' := [(4, .long y1), (0, .ref x0), (1, .int x1), (2, .long x2), (6, .int x6)]) rfl ?_
      refine j_iinc (pc := 26) C dX3_runScript_26 rfl (v := (x6 + (1 : Int32))) rfl (Nat.le_of_ble_eq_true rfl) (ls' := [(6, .int (x6 + (1 : Int32))), (4, .long y1), (0, .ref x0), (1, .int x1), (2, .long x2)]) rfl ?_
      refine j_goto (pc := 29) C dX3_runScript_29 (tgt := 6) (by decide) ?_
      refine j_loc [2, 3, 4, 1, 0] rfl ?_
      exact h6 x0 x1 x2 y1 (x6 + (1 : Int32)) M
theorem t_X3_runScript_l6 {z : Sh9} {N : Nv9} {X : Cx9} {out : Out9 × Mem9} (C : OK9 z N X out 8 (co9 out.1) cX3_runScript RX3 9 1 [])  : ∀ (n : Nat) (x0 : Nat) (x1 : Int32) (x2 : Int64) (x4 : Int64) (x6 : Int32) (M : Mem9), J9 z N X out 8 6 [(0, .ref x0), (1, .int x1), (2, .long x2), (4, .long x4), (6, .int x6)] [] M (0, 0) (fx9 (fun _ _ _ _ _ _ => none) (f_X3_runScript_b6 z ) n x0 x1 x2 x4 x6 M) := by
  intro n
  induction n with
  | zero => intro x0 x1 x2 x4 x6 M; exact j_none
  | succ n ih => intro x0 x1 x2 x4 x6 M; exact t_X3_runScript_b6 C  ih x0 x1 x2 x4 x6 M
def f_X3_runScript (z : Sh9) (a0 : Nat) (a1 : Int32) (a2 : Int64) (M : Mem9) : Re9 :=
  (fx9 (fun _ _ _ _ _ _ => none) (f_X3_runScript_b6 z ) FU9 a0 a1 a2 (1 : Int64) (0 : Int32) M)
set_option maxRecDepth 20000 in
set_option maxHeartbeats 4000000 in
theorem t_X3_runScript {z : Sh9} {N : Nv9} {X : Cx9} {out : Out9 × Mem9} (C : OK9 z N X out 8 (co9 out.1) cX3_runScript RX3 9 1 []) (a0 : Nat) (a1 : Int32) (a2 : Int64) (M : Mem9) : J9 z N X out 8 0 [(0, .ref a0), (1, .int a1), (2, .long a2)] [] M (0, 0) (f_X3_runScript z a0 a1 a2 M) := by
  refine j_lconst (pc := 0) C dX3_runScript_0 (v := 1) rfl ?_
  refine j_lstore (pc := 1) C dX3_runScript_1 (Nat.le_of_ble_eq_true rfl) (ls' := [(4, .long (1 : Int64)), (0, .ref a0), (1, .int a1), (2, .long a2)]) rfl ?_
  refine j_iconst (pc := 3) C dX3_runScript_3 (v := 0) rfl ?_
  refine j_istore (pc := 4) C dX3_runScript_4 (Nat.le_of_ble_eq_true rfl) (ls' := [(6, .int (0 : Int32)), (4, .long (1 : Int64)), (0, .ref a0), (1, .int a1), (2, .long a2)]) rfl ?_
  refine j_loc [2, 3, 4, 1, 0] rfl ?_
  exact t_X3_runScript_l6 C  FU9 a0 a1 a2 (1 : Int64) (0 : Int32) M
theorem sp_X3_runScript {l : Launch} {z : Sh9} {N : Nv9} {a0 : Nat} {a1 : Int32} {a2 : Int64} {M : Mem9} {o : Out9 × Mem9} (hl : l.stackTraces = false) (h : f_X3_runScript z a0 a1 a2 M = some o) : Sp9 l z N yX3_runScript (Cond.code yX3_runScript cX3_runScript 8 (some .int)) 9 [.ref a0, .int a1, .long a2] M (co9 o.1) o :=
  sp9_of (rk := 1) (own := RX3) (by decide +kernel) rfl (Or.inr (Or.inl ⟨rfl, rfl⟩)) hl (Nat.le_of_ble_eq_true rfl) (fun X C => t_X3_runScript C a0 a1 a2 M) h
def f_X3_save_b16 (z : Sh9)  (x0 : Nat) (x1 : Int32) (s0 : Int32) (s1 : Nat) (M : Mem9) : Re9 :=
  (bi9 (iv9 z s1 3 (f_X3_refused z s1 s0 M)) fun v5 M4 => (if v5 = 0 then ((rf9 z x0 3 2).bind fun v6 => ((rf9 z x0 3 5).bind fun v7 => (bv9 (f_X3_copyState z v6 (0 : Int32) v7 ((121 : Int32) * x1) M4) fun M8 => ((rf9 z x0 3 6).bind fun v9 => ((sz9 z M8 v9 x1 (1 : Int32)).bind fun M10 => ((rf9 z x0 3 2).bind fun v11 => ((ld9 z M10 10 v11 (1 : Int32)).bind fun v12 => (ri9 v12 M10)))))))) else (ri9 (0 : Int32) M4)))
set_option maxRecDepth 20000 in
set_option maxHeartbeats 4000000 in
theorem t_X3_save_b16 {z : Sh9} {N : Nv9} {X : Cx9} {out : Out9 × Mem9} (C : OK9 z N X out 2 (co9 out.1) cX3_save RX3 1 1 [])  (x0 : Nat) (x1 : Int32) (s0 : Int32) (s1 : Nat) (M : Mem9) : J9 z N X out 2 16 [(0, .ref x0), (1, .int x1)] [.int s0, .ref s1] M (0, 0) (f_X3_save_b16 z  x0 x1 s0 s1 M) := by
  refine j_callVi (pc := 16) C rfl dX3_save_16 lv_X3_130 rfl (Nat.le_of_ble_eq_true rfl) (Nat.le_of_ble_eq_true rfl) (by decide) (Or.inl rfl) ⟨Nat.le_refl _, Nat.le_refl _⟩ (fun l hl o ho => sp_X3_refused hl ho) (fun v5 M4 => ?_)
  refine j_if_eq (pc := 19) C dX3_save_19 (tgt := 24) (by decide) (fun hc13 => ?_) (fun hc13 => ?_)
  · refine j_aload_n (pc := 24) C dX3_save_24 rfl ?_
    refine j_getR (pc := 25) C dX3_save_25 fl_X3_13 fr_X3_3 (fun v6 => ?_)
    refine j_iconst (pc := 28) C dX3_save_28 (v := 0) rfl ?_
    refine j_aload_n (pc := 29) C dX3_save_29 rfl ?_
    refine j_getR (pc := 30) C dX3_save_30 fl_X3_22 fr_X3_7 (fun v7 => ?_)
    refine j_bipush (pc := 33) C dX3_save_33 (v := 121) rfl ?_
    refine j_iload_n (pc := 35) C dX3_save_35 rfl ?_
    refine j_imul (pc := 36) C dX3_save_36 ?_
    refine j_callSv (pc := 37) C rfl dX3_save_37 ls_X3_187 rfl (Nat.le_of_ble_eq_true rfl) (Nat.le_of_ble_eq_true rfl) (by decide) (Or.inl rfl) ⟨Nat.le_refl _, Nat.le_refl _⟩ (fun l hl o ho => sp_X3_copyState hl ho) (fun M8 => ?_)
    refine j_aload_n (pc := 40) C dX3_save_40 rfl ?_
    refine j_getR (pc := 41) C dX3_save_41 fl_X3_25 fr_X3_8 (fun v9 => ?_)
    refine j_iload_n (pc := 44) C dX3_save_44 rfl ?_
    refine j_iconst (pc := 45) C dX3_save_45 (v := 1) rfl ?_
    refine j_bastore (pc := 46) C dX3_save_46 (fun M10 => ?_)
    refine j_aload_n (pc := 47) C dX3_save_47 rfl ?_
    refine j_getR (pc := 48) C dX3_save_48 fl_X3_13 fr_X3_3 (fun v11 => ?_)
    refine j_iconst (pc := 51) C dX3_save_51 (v := 1) rfl ?_
    refine j_iaload (pc := 52) C dX3_save_52 (fun v12 => ?_)
    exact j_ireturn (pc := 53) C rfl dX3_save_53 ⟨Nat.zero_le _, Nat.zero_le _⟩
  · refine j_iconst (pc := 22) C dX3_save_22 (v := 0) rfl ?_
    exact j_ireturn (pc := 23) C rfl dX3_save_23 ⟨Nat.zero_le _, Nat.zero_le _⟩
def f_X3_save (z : Sh9) (a0 : Nat) (a1 : Int32) (M : Mem9) : Re9 :=
  (bi9 (f_X3_in z (Int32.toInt64 a1) (0 : Int64) (1 : Int64) M) fun v2 M1 => (if v2 = 0 then (f_X3_save_b16 z  a0 a1 (1 : Int32) a0 M1) else (f_X3_save_b16 z  a0 a1 (0 : Int32) a0 M1)))
set_option maxRecDepth 20000 in
set_option maxHeartbeats 4000000 in
theorem t_X3_save {z : Sh9} {N : Nv9} {X : Cx9} {out : Out9 × Mem9} (C : OK9 z N X out 2 (co9 out.1) cX3_save RX3 1 1 []) (a0 : Nat) (a1 : Int32) (M : Mem9) : J9 z N X out 2 0 [(0, .ref a0), (1, .int a1)] [] M (0, 0) (f_X3_save z a0 a1 M) := by
  refine j_aload_n (pc := 0) C dX3_save_0 rfl ?_
  refine j_iload_n (pc := 1) C dX3_save_1 rfl ?_
  refine j_i2l (pc := 2) C dX3_save_2 ?_
  refine j_lconst (pc := 3) C dX3_save_3 (v := 0) rfl ?_
  refine j_lconst (pc := 4) C dX3_save_4 (v := 1) rfl ?_
  refine j_callSi (pc := 5) C rfl dX3_save_5 ls_X3_40 rfl (Nat.le_of_ble_eq_true rfl) (Nat.le_of_ble_eq_true rfl) (by decide) (Or.inl rfl) ⟨Nat.le_refl _, Nat.le_refl _⟩ (fun l hl o ho => sp_X3_in hl ho) (fun v2 M1 => ?_)
  refine j_if_eq (pc := 8) C dX3_save_8 (tgt := 15) (by decide) (fun hc3 => ?_) (fun hc3 => ?_)
  · refine j_iconst (pc := 15) C dX3_save_15 (v := 1) rfl ?_
    exact t_X3_save_b16 C  a0 a1 (1 : Int32) a0 M1
  · refine j_iconst (pc := 11) C dX3_save_11 (v := 0) rfl ?_
    refine j_goto (pc := 12) C dX3_save_12 (tgt := 16) (by decide) ?_
    exact t_X3_save_b16 C  a0 a1 (0 : Int32) a0 M1
theorem sp_X3_save {l : Launch} {z : Sh9} {N : Nv9} {a0 : Nat} {a1 : Int32} {M : Mem9} {o : Out9 × Mem9} (hl : l.stackTraces = false) (h : f_X3_save z a0 a1 M = some o) : Sp9 l z N yX3_save (Cond.code yX3_save cX3_save 2 (some .int)) 1 [.ref a0, .int a1] M (co9 o.1) o :=
  sp9_of (rk := 1) (own := RX3) (by decide +kernel) rfl (Or.inr (Or.inl ⟨rfl, rfl⟩)) hl (Nat.le_of_ble_eq_true rfl) (fun X C => t_X3_save C a0 a1 M) h
def f_X3_set_b14 (z : Sh9)  (x0 : Nat) (x1 : Int32) (x2 : Int32) (s0 : Int32) (s1 : Nat) (M : Mem9) : Re9 :=
  (bi9 (iv9 z s1 3 (f_X3_refused z s1 s0 M)) fun v5 M4 => (if v5 = 0 then (bv9 (iv9 z x0 3 (f_X3_remember z x0  M4)) fun M6 => ((rf9 z x0 3 2).bind fun v7 => ((ld9 z M6 10 v7 ((7 : Int32) + x1)).bind fun v8 => ((rf9 z x0 3 2).bind fun v9 => ((st9 z M6 v9 ((7 : Int32) + x1) x2).bind fun M10 => (ri9 v8 M10)))))) else (ri9 (0 : Int32) M4)))
set_option maxRecDepth 20000 in
set_option maxHeartbeats 4000000 in
theorem t_X3_set_b14 {z : Sh9} {N : Nv9} {X : Cx9} {out : Out9 × Mem9} (C : OK9 z N X out 4 (co9 out.1) cX3_set RX3 2 1 [])  (x0 : Nat) (x1 : Int32) (x2 : Int32) (s0 : Int32) (s1 : Nat) (M : Mem9) : J9 z N X out 4 14 [(0, .ref x0), (1, .int x1), (2, .int x2)] [.int s0, .ref s1] M (0, 0) (f_X3_set_b14 z  x0 x1 x2 s0 s1 M) := by
  refine j_callVi (pc := 14) C rfl dX3_set_14 lv_X3_130 rfl (Nat.le_of_ble_eq_true rfl) (Nat.le_of_ble_eq_true rfl) (by decide) (Or.inl rfl) ⟨Nat.le_refl _, Nat.le_refl _⟩ (fun l hl o ho => sp_X3_refused hl ho) (fun v5 M4 => ?_)
  refine j_if_eq (pc := 17) C dX3_set_17 (tgt := 22) (by decide) (fun hc11 => ?_) (fun hc11 => ?_)
  · refine j_aload_n (pc := 22) C dX3_set_22 rfl ?_
    refine j_callVv (pc := 23) C rfl dX3_set_23 lv_X3_204 rfl (Nat.le_of_ble_eq_true rfl) (Nat.le_of_ble_eq_true rfl) (by decide) (Or.inl rfl) ⟨Nat.le_refl _, Nat.le_refl _⟩ (fun l hl o ho => sp_X3_remember hl ho) (fun M6 => ?_)
    refine j_aload_n (pc := 26) C dX3_set_26 rfl ?_
    refine j_getR (pc := 27) C dX3_set_27 fl_X3_13 fr_X3_3 (fun v7 => ?_)
    refine j_bipush (pc := 30) C dX3_set_30 (v := 7) rfl ?_
    refine j_iload_n (pc := 32) C dX3_set_32 rfl ?_
    refine j_iadd (pc := 33) C dX3_set_33 ?_
    refine j_iaload (pc := 34) C dX3_set_34 (fun v8 => ?_)
    refine j_istore_n (pc := 35) C dX3_set_35 (Nat.le_of_ble_eq_true rfl) (ls' := [(3, .int v8), (0, .ref x0), (1, .int x1), (2, .int x2)]) rfl ?_
    refine j_aload_n (pc := 36) C dX3_set_36 rfl ?_
    refine j_getR (pc := 37) C dX3_set_37 fl_X3_13 fr_X3_3 (fun v9 => ?_)
    refine j_bipush (pc := 40) C dX3_set_40 (v := 7) rfl ?_
    refine j_iload_n (pc := 42) C dX3_set_42 rfl ?_
    refine j_iadd (pc := 43) C dX3_set_43 ?_
    refine j_iload_n (pc := 44) C dX3_set_44 rfl ?_
    refine j_iastore (pc := 45) C dX3_set_45 (fun M10 => ?_)
    refine j_iload_n (pc := 46) C dX3_set_46 rfl ?_
    exact j_ireturn (pc := 47) C rfl dX3_set_47 ⟨Nat.zero_le _, Nat.zero_le _⟩
  · refine j_iconst (pc := 20) C dX3_set_20 (v := 0) rfl ?_
    exact j_ireturn (pc := 21) C rfl dX3_set_21 ⟨Nat.zero_le _, Nat.zero_le _⟩
def f_X3_set (z : Sh9) (a0 : Nat) (a1 : Int32) (a2 : Int32) (M : Mem9) : Re9 :=
  (bi9 (f_X3_isSetting z a1 a2 M) fun v2 M1 => (if v2 = 0 then (f_X3_set_b14 z  a0 a1 a2 (1 : Int32) a0 M1) else (f_X3_set_b14 z  a0 a1 a2 (0 : Int32) a0 M1)))
set_option maxRecDepth 20000 in
set_option maxHeartbeats 4000000 in
theorem t_X3_set {z : Sh9} {N : Nv9} {X : Cx9} {out : Out9 × Mem9} (C : OK9 z N X out 4 (co9 out.1) cX3_set RX3 2 1 []) (a0 : Nat) (a1 : Int32) (a2 : Int32) (M : Mem9) : J9 z N X out 4 0 [(0, .ref a0), (1, .int a1), (2, .int a2)] [] M (0, 0) (f_X3_set z a0 a1 a2 M) := by
  refine j_aload_n (pc := 0) C dX3_set_0 rfl ?_
  refine j_iload_n (pc := 1) C dX3_set_1 rfl ?_
  refine j_iload_n (pc := 2) C dX3_set_2 rfl ?_
  refine j_callSi (pc := 3) C rfl dX3_set_3 ls_X3_207 rfl (Nat.le_of_ble_eq_true rfl) (Nat.le_of_ble_eq_true rfl) (by decide) (Or.inl rfl) ⟨Nat.le_refl _, Nat.le_refl _⟩ (fun l hl o ho => sp_X3_isSetting hl ho) (fun v2 M1 => ?_)
  refine j_if_eq (pc := 6) C dX3_set_6 (tgt := 13) (by decide) (fun hc3 => ?_) (fun hc3 => ?_)
  · refine j_iconst (pc := 13) C dX3_set_13 (v := 1) rfl ?_
    exact t_X3_set_b14 C  a0 a1 a2 (1 : Int32) a0 M1
  · refine j_iconst (pc := 9) C dX3_set_9 (v := 0) rfl ?_
    refine j_goto (pc := 10) C dX3_set_10 (tgt := 14) (by decide) ?_
    exact t_X3_set_b14 C  a0 a1 a2 (0 : Int32) a0 M1
theorem sp_X3_set {l : Launch} {z : Sh9} {N : Nv9} {a0 : Nat} {a1 : Int32} {a2 : Int32} {M : Mem9} {o : Out9 × Mem9} (hl : l.stackTraces = false) (h : f_X3_set z a0 a1 a2 M = some o) : Sp9 l z N yX3_set (Cond.code yX3_set cX3_set 4 (some .int)) 2 [.ref a0, .int a1, .int a2] M (co9 o.1) o :=
  sp9_of (rk := 1) (own := RX3) (by decide +kernel) rfl (Or.inr (Or.inl ⟨rfl, rfl⟩)) hl (Nat.le_of_ble_eq_true rfl) (fun X C => t_X3_set C a0 a1 a2 M) h
def f_X3_setting_b18 (z : Sh9)  (x0 : Nat) (x1 : Int32) (s0 : Int32) (s1 : Nat) (M : Mem9) : Re9 :=
  (bi9 (iv9 z s1 3 (f_X3_refused z s1 s0 M)) fun v5 M4 => (if v5 = 0 then ((rf9 z x0 3 2).bind fun v6 => ((ld9 z M4 10 v6 ((7 : Int32) + x1)).bind fun v7 => (ri9 v7 M4))) else (ri9 (0 : Int32) M4)))
set_option maxRecDepth 20000 in
set_option maxHeartbeats 4000000 in
theorem t_X3_setting_b18 {z : Sh9} {N : Nv9} {X : Cx9} {out : Out9 × Mem9} (C : OK9 z N X out 2 (co9 out.1) cX3_setting RX3 1 1 [])  (x0 : Nat) (x1 : Int32) (s0 : Int32) (s1 : Nat) (M : Mem9) : J9 z N X out 2 18 [(0, .ref x0), (1, .int x1)] [.int s0, .ref s1] M (0, 0) (f_X3_setting_b18 z  x0 x1 s0 s1 M) := by
  refine j_callVi (pc := 18) C rfl dX3_setting_18 lv_X3_130 rfl (Nat.le_of_ble_eq_true rfl) (Nat.le_of_ble_eq_true rfl) (by decide) (Or.inl rfl) ⟨Nat.le_refl _, Nat.le_refl _⟩ (fun l hl o ho => sp_X3_refused hl ho) (fun v5 M4 => ?_)
  refine j_if_eq (pc := 21) C dX3_setting_21 (tgt := 26) (by decide) (fun hc8 => ?_) (fun hc8 => ?_)
  · refine j_aload_n (pc := 26) C dX3_setting_26 rfl ?_
    refine j_getR (pc := 27) C dX3_setting_27 fl_X3_13 fr_X3_3 (fun v6 => ?_)
    refine j_bipush (pc := 30) C dX3_setting_30 (v := 7) rfl ?_
    refine j_iload_n (pc := 32) C dX3_setting_32 rfl ?_
    refine j_iadd (pc := 33) C dX3_setting_33 ?_
    refine j_iaload (pc := 34) C dX3_setting_34 (fun v7 => ?_)
    exact j_ireturn (pc := 35) C rfl dX3_setting_35 ⟨Nat.zero_le _, Nat.zero_le _⟩
  · refine j_iconst (pc := 24) C dX3_setting_24 (v := 0) rfl ?_
    exact j_ireturn (pc := 25) C rfl dX3_setting_25 ⟨Nat.zero_le _, Nat.zero_le _⟩
def f_X3_setting (z : Sh9) (a0 : Nat) (a1 : Int32) (M : Mem9) : Re9 :=
  (bi9 (f_X3_in z (Int32.toInt64 a1) (0 : Int64) (2 : Int64) M) fun v2 M1 => (if v2 = 0 then (f_X3_setting_b18 z  a0 a1 (1 : Int32) a0 M1) else (f_X3_setting_b18 z  a0 a1 (0 : Int32) a0 M1)))
set_option maxRecDepth 20000 in
set_option maxHeartbeats 4000000 in
theorem t_X3_setting {z : Sh9} {N : Nv9} {X : Cx9} {out : Out9 × Mem9} (C : OK9 z N X out 2 (co9 out.1) cX3_setting RX3 1 1 []) (a0 : Nat) (a1 : Int32) (M : Mem9) : J9 z N X out 2 0 [(0, .ref a0), (1, .int a1)] [] M (0, 0) (f_X3_setting z a0 a1 M) := by
  refine j_aload_n (pc := 0) C dX3_setting_0 rfl ?_
  refine j_iload_n (pc := 1) C dX3_setting_1 rfl ?_
  refine j_i2l (pc := 2) C dX3_setting_2 ?_
  refine j_lconst (pc := 3) C dX3_setting_3 (v := 0) rfl ?_
  refine j_ldc2 (pc := 4) C dX3_setting_4 (v := 2) w9_839 ?_
  refine j_callSi (pc := 7) C rfl dX3_setting_7 ls_X3_40 rfl (Nat.le_of_ble_eq_true rfl) (Nat.le_of_ble_eq_true rfl) (by decide) (Or.inl rfl) ⟨Nat.le_refl _, Nat.le_refl _⟩ (fun l hl o ho => sp_X3_in hl ho) (fun v2 M1 => ?_)
  refine j_if_eq (pc := 10) C dX3_setting_10 (tgt := 17) (by decide) (fun hc3 => ?_) (fun hc3 => ?_)
  · refine j_iconst (pc := 17) C dX3_setting_17 (v := 1) rfl ?_
    exact t_X3_setting_b18 C  a0 a1 (1 : Int32) a0 M1
  · refine j_iconst (pc := 13) C dX3_setting_13 (v := 0) rfl ?_
    refine j_goto (pc := 14) C dX3_setting_14 (tgt := 18) (by decide) ?_
    exact t_X3_setting_b18 C  a0 a1 (0 : Int32) a0 M1
theorem sp_X3_setting {l : Launch} {z : Sh9} {N : Nv9} {a0 : Nat} {a1 : Int32} {M : Mem9} {o : Out9 × Mem9} (hl : l.stackTraces = false) (h : f_X3_setting z a0 a1 M = some o) : Sp9 l z N yX3_setting (Cond.code yX3_setting cX3_setting 2 (some .int)) 1 [.ref a0, .int a1] M (co9 o.1) o :=
  sp9_of (rk := 1) (own := RX3) (by decide +kernel) rfl (Or.inr (Or.inl ⟨rfl, rfl⟩)) hl (Nat.le_of_ble_eq_true rfl) (fun X C => t_X3_setting C a0 a1 M) h
def f_X3_turn_b125 (z : Sh9)  (s0 : Int32) (s1 : Int32) (s2 : Nat) (M : Mem9) : Re9 :=
  (bi9 (f_X3_loopOn z s2 s1 s0 M) fun v39 M38 => (rv9 M38))
set_option maxRecDepth 20000 in
set_option maxHeartbeats 4000000 in
theorem t_X3_turn_b125 {z : Sh9} {N : Nv9} {X : Cx9} {out : Out9 × Mem9} (C : OK9 z N X out 5 (co9 out.1) cX3_turn RX3 8 0 [])  (s0 : Int32) (s1 : Int32) (s2 : Nat) (M : Mem9) : J9 z N X out 5 125 [] [.int s0, .int s1, .ref s2] M (0, 0) (f_X3_turn_b125 z  s0 s1 s2 M) := by
  refine j_callSi (pc := 125) C rfl dX3_turn_125 ls_X3_167 rfl (Nat.le_of_ble_eq_true rfl) (Nat.le_of_ble_eq_true rfl) (by decide) (Or.inl rfl) ⟨Nat.le_refl _, Nat.le_refl _⟩ (fun l hl o ho => sp_X3_loopOn hl ho) (fun v39 M38 => ?_)
  refine j_pop (pc := 128) C dX3_turn_128 rfl ?_
  refine j_goto (pc := 129) C dX3_turn_129 (tgt := 176) (by decide) ?_
  exact j_return (pc := 176) C rfl dX3_turn_176 ⟨Nat.zero_le _, Nat.zero_le _⟩
def f_X3_turn_b83 (z : Sh9)  (s0 : Int32) (s1 : Int32) (s2 : Int32) (s3 : Int32) (s4 : Nat) (M : Mem9) : Re9 :=
  (bi9 (f_X3_arriveOn z s4 s3 s2 s1 s0 M) fun v44 M43 => (rv9 M43))
set_option maxRecDepth 20000 in
set_option maxHeartbeats 4000000 in
theorem t_X3_turn_b83 {z : Sh9} {N : Nv9} {X : Cx9} {out : Out9 × Mem9} (C : OK9 z N X out 5 (co9 out.1) cX3_turn RX3 8 0 [])  (s0 : Int32) (s1 : Int32) (s2 : Int32) (s3 : Int32) (s4 : Nat) (M : Mem9) : J9 z N X out 5 83 [] [.int s0, .int s1, .int s2, .int s3, .ref s4] M (0, 0) (f_X3_turn_b83 z  s0 s1 s2 s3 s4 M) := by
  refine j_callSi (pc := 83) C rfl dX3_turn_83 ls_X3_163 rfl (Nat.le_of_ble_eq_true rfl) (Nat.le_of_ble_eq_true rfl) (by decide) (Or.inl rfl) ⟨Nat.le_refl _, Nat.le_refl _⟩ (fun l hl o ho => sp_X3_arriveOn hl ho) (fun v44 M43 => ?_)
  refine j_pop (pc := 86) C dX3_turn_86 rfl ?_
  refine j_goto (pc := 87) C dX3_turn_87 (tgt := 176) (by decide) ?_
  exact j_return (pc := 176) C rfl dX3_turn_176 ⟨Nat.zero_le _, Nat.zero_le _⟩
def f_X3_turn_b68 (z : Sh9)  (x2 : Int32) (s0 : Int32) (s1 : Int32) (s2 : Int32) (s3 : Nat) (M : Mem9) : Re9 :=
  ((dv9 x2 (512 : Int32)).bind fun v40 => ((rm9 v40 (4 : Int32)).bind fun v41 => (if v41 = 0 then (f_X3_turn_b83 z  (1 : Int32) s0 s1 s2 s3 M) else (f_X3_turn_b83 z  (0 : Int32) s0 s1 s2 s3 M))))
set_option maxRecDepth 20000 in
set_option maxHeartbeats 4000000 in
theorem t_X3_turn_b68 {z : Sh9} {N : Nv9} {X : Cx9} {out : Out9 × Mem9} (C : OK9 z N X out 5 (co9 out.1) cX3_turn RX3 8 0 [])  (x2 : Int32) (s0 : Int32) (s1 : Int32) (s2 : Int32) (s3 : Nat) (M : Mem9) : J9 z N X out 5 68 [(2, .int x2)] [.int s0, .int s1, .int s2, .ref s3] M (0, 0) (f_X3_turn_b68 z  x2 s0 s1 s2 s3 M) := by
  refine j_iload_n (pc := 68) C dX3_turn_68 rfl ?_
  refine j_sipush (pc := 69) C dX3_turn_69 (v := 512) rfl ?_
  refine j_idiv (pc := 72) C dX3_turn_72 (fun v40 => ?_)
  refine j_iconst (pc := 73) C dX3_turn_73 (v := 4) rfl ?_
  refine j_irem (pc := 74) C dX3_turn_74 (fun v41 => ?_)
  refine j_if_ne (pc := 75) C dX3_turn_75 (tgt := 82) (by decide) (fun hc42 => ?_) (fun hc42 => ?_)
  · refine j_iconst (pc := 82) C dX3_turn_82 (v := 0) rfl ?_
    refine j_loc [] rfl ?_
    exact t_X3_turn_b83 C  (0 : Int32) s0 s1 s2 s3 M
  · refine j_iconst (pc := 78) C dX3_turn_78 (v := 1) rfl ?_
    refine j_goto (pc := 79) C dX3_turn_79 (tgt := 83) (by decide) ?_
    refine j_loc [] rfl ?_
    exact t_X3_turn_b83 C  (1 : Int32) s0 s1 s2 s3 M
def f_X3_turn (z : Sh9) (a0 : Nat) (a1 : Int32) (M : Mem9) : Re9 :=
  ((dv9 a1 (8 : Int32)).bind fun v1 => ((rm9 v1 (3 : Int32)).bind fun v2 => ((rm9 a1 (8 : Int32)).bind fun v3 => (if (3 : Int32) ≤ v3 then (if v3 = (3 : Int32) then ((rf9 z a0 3 3).bind fun v16 => (bi9 (f_X3_isLane z v16 v2 M) fun v18 M17 => (if v18 = 0 then (rv9 M17) else ((rf9 z a0 3 3).bind fun v19 => ((dv9 v1 (4 : Int32)).bind fun v20 => ((rm9 v20 (4 : Int32)).bind fun v21 => (if v21 = 0 then (f_X3_turn_b125 z  (1 : Int32) v2 v19 M17) else (f_X3_turn_b125 z  (0 : Int32) v2 v19 M17)))))))) else (if v3 = (4 : Int32) then ((rf9 z a0 3 3).bind fun v8 => (bi9 (f_X3_canMend z v8 v2 M) fun v10 M9 => (if v10 = 0 then (rv9 M9) else ((rf9 z a0 3 3).bind fun v11 => (bi9 (f_X3_mendOn z v11 v2 M9) fun v13 M12 => (rv9 M12)))))) else ((rf9 z a0 3 3).bind fun v4 => ((rm9 v1 (20 : Int32)).bind fun v5 => (bi9 (iv9 z a0 3 (f_X3_runOn z a0 v4 ((1 : Int32) + v5) M)) fun v7 M6 => (rv9 M6)))))) else ((rf9 z a0 3 3).bind fun v25 => ((dv9 v1 (4 : Int32)).bind fun v26 => ((rm9 v26 (11 : Int32)).bind fun v27 => (bi9 (f_X3_canArrive z v25 v2 ((2 : Int32) + v27) M) fun v29 M28 => (if v29 = 0 then (rv9 M28) else ((rf9 z a0 3 3).bind fun v30 => ((dv9 v1 (4 : Int32)).bind fun v31 => ((rm9 v31 (11 : Int32)).bind fun v32 => ((dv9 v1 (64 : Int32)).bind fun v33 => ((rm9 v33 (8 : Int32)).bind fun v34 => (if v34 = 0 then (f_X3_turn_b68 z  v1 (1 : Int32) ((2 : Int32) + v32) v2 v30 M28) else (f_X3_turn_b68 z  v1 (0 : Int32) ((2 : Int32) + v32) v2 v30 M28))))))))))))))))
set_option maxRecDepth 20000 in
set_option maxHeartbeats 4000000 in
theorem t_X3_turn {z : Sh9} {N : Nv9} {X : Cx9} {out : Out9 × Mem9} (C : OK9 z N X out 5 (co9 out.1) cX3_turn RX3 8 0 []) (a0 : Nat) (a1 : Int32) (M : Mem9) : J9 z N X out 5 0 [(0, .ref a0), (1, .int a1)] [] M (0, 0) (f_X3_turn z a0 a1 M) := by
  refine j_iload_n (pc := 0) C dX3_turn_0 rfl ?_
  refine j_bipush (pc := 1) C dX3_turn_1 (v := 8) rfl ?_
  refine j_idiv (pc := 3) C dX3_turn_3 (fun v1 => ?_)
  refine j_istore_n (pc := 4) C dX3_turn_4 (Nat.le_of_ble_eq_true rfl) (ls' := [(2, .int v1), (0, .ref a0), (1, .int a1)]) rfl ?_
  refine j_iload_n (pc := 5) C dX3_turn_5 rfl ?_
  refine j_iconst (pc := 6) C dX3_turn_6 (v := 3) rfl ?_
  refine j_irem (pc := 7) C dX3_turn_7 (fun v2 => ?_)
  refine j_istore_n (pc := 8) C dX3_turn_8 (Nat.le_of_ble_eq_true rfl) (ls' := [(3, .int v2), (2, .int v1), (0, .ref a0), (1, .int a1)]) rfl ?_
  refine j_iload_n (pc := 9) C dX3_turn_9 rfl ?_
  refine j_bipush (pc := 10) C dX3_turn_10 (v := 8) rfl ?_
  refine j_irem (pc := 12) C dX3_turn_12 (fun v3 => ?_)
  refine j_istore (pc := 13) C dX3_turn_13 (Nat.le_of_ble_eq_true rfl) (ls' := [(4, .int v3), (3, .int v2), (2, .int v1), (0, .ref a0), (1, .int a1)]) rfl ?_
  refine j_iload (pc := 15) C dX3_turn_15 rfl ?_
  refine j_iconst (pc := 17) C dX3_turn_17 (v := 3) rfl ?_
  refine j_icmp_ge (pc := 18) C dX3_turn_18 (tgt := 90) (by decide) (fun hc37 => ?_) (fun hc37 => ?_)
  · refine j_iload (pc := 90) C dX3_turn_90 rfl ?_
    refine j_iconst (pc := 92) C dX3_turn_92 (v := 3) rfl ?_
    refine j_icmp_ne (pc := 93) C dX3_turn_93 (tgt := 132) (by decide) (fun hc24 => ?_) (fun hc24 => ?_)
    · refine j_iload (pc := 132) C dX3_turn_132 rfl ?_
      refine j_iconst (pc := 134) C dX3_turn_134 (v := 4) rfl ?_
      refine j_icmp_ne (pc := 135) C dX3_turn_135 (tgt := 161) (by decide) (fun hc15 => ?_) (fun hc15 => ?_)
      · refine j_aload_n (pc := 161) C dX3_turn_161 rfl ?_
        refine j_aload_n (pc := 162) C dX3_turn_162 rfl ?_
        refine j_getR (pc := 163) C dX3_turn_163 fl_X3_16 fr_X3_4 (fun v4 => ?_)
        refine j_iconst (pc := 166) C dX3_turn_166 (v := 1) rfl ?_
        refine j_iload_n (pc := 167) C dX3_turn_167 rfl ?_
        refine j_bipush (pc := 168) C dX3_turn_168 (v := 20) rfl ?_
        refine j_irem (pc := 170) C dX3_turn_170 (fun v5 => ?_)
        refine j_iadd (pc := 171) C dX3_turn_171 ?_
        refine j_callVi (pc := 172) C rfl dX3_turn_172 lv_X3_177 rfl (Nat.le_of_ble_eq_true rfl) (Nat.le_of_ble_eq_true rfl) (by decide) (Or.inl rfl) ⟨Nat.le_refl _, Nat.le_refl _⟩ (fun l hl o ho => sp_X3_runOn hl ho) (fun v7 M6 => ?_)
        refine j_pop (pc := 175) C dX3_turn_175 rfl ?_
        exact j_return (pc := 176) C rfl dX3_turn_176 ⟨Nat.zero_le _, Nat.zero_le _⟩
      · refine j_aload_n (pc := 138) C dX3_turn_138 rfl ?_
        refine j_getR (pc := 139) C dX3_turn_139 fl_X3_16 fr_X3_4 (fun v8 => ?_)
        refine j_iload_n (pc := 142) C dX3_turn_142 rfl ?_
        refine j_callSi (pc := 143) C rfl dX3_turn_143 ls_X3_171 rfl (Nat.le_of_ble_eq_true rfl) (Nat.le_of_ble_eq_true rfl) (by decide) (Or.inl rfl) ⟨Nat.le_refl _, Nat.le_refl _⟩ (fun l hl o ho => sp_X3_canMend hl ho) (fun v10 M9 => ?_)
        refine j_if_eq (pc := 146) C dX3_turn_146 (tgt := 176) (by decide) (fun hc14 => ?_) (fun hc14 => ?_)
        · exact j_return (pc := 176) C rfl dX3_turn_176 ⟨Nat.zero_le _, Nat.zero_le _⟩
        · refine j_aload_n (pc := 149) C dX3_turn_149 rfl ?_
          refine j_getR (pc := 150) C dX3_turn_150 fl_X3_16 fr_X3_4 (fun v11 => ?_)
          refine j_iload_n (pc := 153) C dX3_turn_153 rfl ?_
          refine j_callSi (pc := 154) C rfl dX3_turn_154 ls_X3_174 rfl (Nat.le_of_ble_eq_true rfl) (Nat.le_of_ble_eq_true rfl) (by decide) (Or.inl rfl) ⟨Nat.le_refl _, Nat.le_refl _⟩ (fun l hl o ho => sp_X3_mendOn hl ho) (fun v13 M12 => ?_)
          refine j_pop (pc := 157) C dX3_turn_157 rfl ?_
          refine j_goto (pc := 158) C dX3_turn_158 (tgt := 176) (by decide) ?_
          exact j_return (pc := 176) C rfl dX3_turn_176 ⟨Nat.zero_le _, Nat.zero_le _⟩
    · refine j_aload_n (pc := 96) C dX3_turn_96 rfl ?_
      refine j_getR (pc := 97) C dX3_turn_97 fl_X3_16 fr_X3_4 (fun v16 => ?_)
      refine j_iload_n (pc := 100) C dX3_turn_100 rfl ?_
      refine j_callSi (pc := 101) C rfl dX3_turn_101 ls_X3_44 rfl (Nat.le_of_ble_eq_true rfl) (Nat.le_of_ble_eq_true rfl) (by decide) (Or.inl rfl) ⟨Nat.le_refl _, Nat.le_refl _⟩ (fun l hl o ho => sp_X3_isLane hl ho) (fun v18 M17 => ?_)
      refine j_if_eq (pc := 104) C dX3_turn_104 (tgt := 176) (by decide) (fun hc23 => ?_) (fun hc23 => ?_)
      · exact j_return (pc := 176) C rfl dX3_turn_176 ⟨Nat.zero_le _, Nat.zero_le _⟩
      · refine j_aload_n (pc := 107) C dX3_turn_107 rfl ?_
        refine j_getR (pc := 108) C dX3_turn_108 fl_X3_16 fr_X3_4 (fun v19 => ?_)
        refine j_iload_n (pc := 111) C dX3_turn_111 rfl ?_
        refine j_iload_n (pc := 112) C dX3_turn_112 rfl ?_
        refine j_iconst (pc := 113) C dX3_turn_113 (v := 4) rfl ?_
        refine j_idiv (pc := 114) C dX3_turn_114 (fun v20 => ?_)
        refine j_iconst (pc := 115) C dX3_turn_115 (v := 4) rfl ?_
        refine j_irem (pc := 116) C dX3_turn_116 (fun v21 => ?_)
        refine j_if_ne (pc := 117) C dX3_turn_117 (tgt := 124) (by decide) (fun hc22 => ?_) (fun hc22 => ?_)
        · refine j_iconst (pc := 124) C dX3_turn_124 (v := 0) rfl ?_
          refine j_loc [] rfl ?_
          exact t_X3_turn_b125 C  (0 : Int32) v2 v19 M17
        · refine j_iconst (pc := 120) C dX3_turn_120 (v := 1) rfl ?_
          refine j_goto (pc := 121) C dX3_turn_121 (tgt := 125) (by decide) ?_
          refine j_loc [] rfl ?_
          exact t_X3_turn_b125 C  (1 : Int32) v2 v19 M17
  · refine j_aload_n (pc := 21) C dX3_turn_21 rfl ?_
    refine j_getR (pc := 22) C dX3_turn_22 fl_X3_16 fr_X3_4 (fun v25 => ?_)
    refine j_iload_n (pc := 25) C dX3_turn_25 rfl ?_
    refine j_iconst (pc := 26) C dX3_turn_26 (v := 2) rfl ?_
    refine j_iload_n (pc := 27) C dX3_turn_27 rfl ?_
    refine j_iconst (pc := 28) C dX3_turn_28 (v := 4) rfl ?_
    refine j_idiv (pc := 29) C dX3_turn_29 (fun v26 => ?_)
    refine j_bipush (pc := 30) C dX3_turn_30 (v := 11) rfl ?_
    refine j_irem (pc := 32) C dX3_turn_32 (fun v27 => ?_)
    refine j_iadd (pc := 33) C dX3_turn_33 ?_
    refine j_callSi (pc := 34) C rfl dX3_turn_34 ls_X3_160 rfl (Nat.le_of_ble_eq_true rfl) (Nat.le_of_ble_eq_true rfl) (by decide) (Or.inl rfl) ⟨Nat.le_refl _, Nat.le_refl _⟩ (fun l hl o ho => sp_X3_canArrive hl ho) (fun v29 M28 => ?_)
    refine j_if_eq (pc := 37) C dX3_turn_37 (tgt := 176) (by decide) (fun hc36 => ?_) (fun hc36 => ?_)
    · exact j_return (pc := 176) C rfl dX3_turn_176 ⟨Nat.zero_le _, Nat.zero_le _⟩
    · refine j_aload_n (pc := 40) C dX3_turn_40 rfl ?_
      refine j_getR (pc := 41) C dX3_turn_41 fl_X3_16 fr_X3_4 (fun v30 => ?_)
      refine j_iload_n (pc := 44) C dX3_turn_44 rfl ?_
      refine j_iconst (pc := 45) C dX3_turn_45 (v := 2) rfl ?_
      refine j_iload_n (pc := 46) C dX3_turn_46 rfl ?_
      refine j_iconst (pc := 47) C dX3_turn_47 (v := 4) rfl ?_
      refine j_idiv (pc := 48) C dX3_turn_48 (fun v31 => ?_)
      refine j_bipush (pc := 49) C dX3_turn_49 (v := 11) rfl ?_
      refine j_irem (pc := 51) C dX3_turn_51 (fun v32 => ?_)
      refine j_iadd (pc := 52) C dX3_turn_52 ?_
      refine j_iload_n (pc := 53) C dX3_turn_53 rfl ?_
      refine j_bipush (pc := 54) C dX3_turn_54 (v := 64) rfl ?_
      refine j_idiv (pc := 56) C dX3_turn_56 (fun v33 => ?_)
      refine j_bipush (pc := 57) C dX3_turn_57 (v := 8) rfl ?_
      refine j_irem (pc := 59) C dX3_turn_59 (fun v34 => ?_)
      refine j_if_ne (pc := 60) C dX3_turn_60 (tgt := 67) (by decide) (fun hc35 => ?_) (fun hc35 => ?_)
      · refine j_iconst (pc := 67) C dX3_turn_67 (v := 0) rfl ?_
        refine j_loc [2] rfl ?_
        exact t_X3_turn_b68 C  v1 (0 : Int32) ((2 : Int32) + v32) v2 v30 M28
      · refine j_iconst (pc := 63) C dX3_turn_63 (v := 1) rfl ?_
        refine j_goto (pc := 64) C dX3_turn_64 (tgt := 68) (by decide) ?_
        refine j_loc [2] rfl ?_
        exact t_X3_turn_b68 C  v1 (1 : Int32) ((2 : Int32) + v32) v2 v30 M28
theorem sp_X3_turn {l : Launch} {z : Sh9} {N : Nv9} {a0 : Nat} {a1 : Int32} {M : Mem9} {o : Out9 × Mem9} (hl : l.stackTraces = false) (h : f_X3_turn z a0 a1 M = some o) : Sp9 l z N yX3_turn (Cond.code yX3_turn cX3_turn 5 none) 8 [.ref a0, .int a1] M (co9 o.1) o :=
  sp9_of (rk := 0) (own := RX3) (by decide +kernel) rfl (Or.inl ⟨rfl, rfl⟩) hl (Nat.le_of_ble_eq_true rfl) (fun X C => t_X3_turn C a0 a1 M) h
def f_X3_simulate_b142 (z : Sh9)  (s0 : Int32) (s1 : Int32) (M : Mem9) : Re9 :=
  (ri9 (s1 + s0) M)
set_option maxRecDepth 20000 in
set_option maxHeartbeats 4000000 in
theorem t_X3_simulate_b142 {z : Sh9} {N : Nv9} {X : Cx9} {out : Out9 × Mem9} (C : OK9 z N X out 7 (co9 out.1) cX3_simulate RX3 9 1 [])  (s0 : Int32) (s1 : Int32) (M : Mem9) : J9 z N X out 7 142 [] [.int s0, .int s1] M (0, 0) (f_X3_simulate_b142 z  s0 s1 M) := by
  refine j_iadd (pc := 142) C dX3_simulate_142 ?_
  exact j_ireturn (pc := 143) C rfl dX3_simulate_143 ⟨Nat.zero_le _, Nat.zero_le _⟩
def f_X3_simulate_b45 (z : Sh9) (r45 : Nat → Int32 → Int64 → Int32 → Mem9 → Re9) (x0 : Nat) (x3 : Int32) (x4 : Int64) (x6 : Int32) (M : Mem9) : Re9 :=
  (if x3 ≤ x6 then ((rf9 z x0 3 3).bind fun v10 => ((ld9 z M 10 v10 (2 : Int32)).bind fun v11 => ((rf9 z x0 3 2).bind fun v12 => ((ld9 z M 10 v12 (2 : Int32)).bind fun v13 => (nm9 (v11 - v13) fun (y14 : Int32) => ((rf9 z x0 3 3).bind fun v15 => ((ld9 z M 10 v15 (5 : Int32)).bind fun v16 => ((rf9 z x0 3 2).bind fun v17 => ((ld9 z M 10 v17 (5 : Int32)).bind fun v18 => ((rf9 z x0 3 3).bind fun v19 => ((ld9 z M 10 v19 (4 : Int32)).bind fun v20 => ((rf9 z x0 3 2).bind fun v21 => ((ld9 z M 10 v21 (4 : Int32)).bind fun v22 => (if y14 ≤ (99 : Int32) then (f_X3_simulate_b142 z  y14 (((10000 : Int32) * (v16 - v18)) + ((100 : Int32) * (v20 - v22))) M) else (f_X3_simulate_b142 z  (99 : Int32) (((10000 : Int32) * (v16 - v18)) + ((100 : Int32) * (v20 - v22))) M))))))))))))))) else (nm9 ((x4 * (6364136223846793005 : Int64)) + (1442695040888963407 : Int64)) fun (y24 : Int64) => (bv9 (iv9 z x0 3 (f_X3_turn z x0 (Int64.toInt32 (UInt64.toInt64 (Int64.toUInt64 y24 >>> (Int64.toUInt64 (Int32.toInt64 (33 : Int32)) &&& Int64.toUInt64 63)))) M)) fun M25 => (r45 x0 x3 y24 (x6 + (1 : Int32)) M25))))
set_option maxRecDepth 20000 in
set_option maxHeartbeats 4000000 in
theorem t_X3_simulate_b45 {z : Sh9} {N : Nv9} {X : Cx9} {out : Out9 × Mem9} (C : OK9 z N X out 7 (co9 out.1) cX3_simulate RX3 9 1 []) {r45 : Nat → Int32 → Int64 → Int32 → Mem9 → Re9} (h45 : ∀ (x0 : Nat) (x3 : Int32) (x4 : Int64) (x6 : Int32) (M : Mem9), J9 z N X out 7 45 [(0, .ref x0), (3, .int x3), (4, .long x4), (6, .int x6)] [] M (0, 0) (r45 x0 x3 x4 x6 M)) (x0 : Nat) (x3 : Int32) (x4 : Int64) (x6 : Int32) (M : Mem9) : J9 z N X out 7 45 [(0, .ref x0), (3, .int x3), (4, .long x4), (6, .int x6)] [] M (0, 0) (f_X3_simulate_b45 z r45 x0 x3 x4 x6 M) := by
  refine j_iload (pc := 45) C dX3_simulate_45 rfl ?_
  refine j_iload_n (pc := 47) C dX3_simulate_47 rfl ?_
  refine j_icmp_ge (pc := 48) C dX3_simulate_48 (tgt := 79) (by decide) (fun hc26 => ?_) (fun hc26 => ?_)
  · refine j_aload_n (pc := 79) C dX3_simulate_79 rfl ?_
    refine j_getR (pc := 80) C dX3_simulate_80 fl_X3_16 fr_X3_4 (fun v10 => ?_)
    refine j_iconst (pc := 83) C dX3_simulate_83 (v := 2) rfl ?_
    refine j_iaload (pc := 84) C dX3_simulate_84 (fun v11 => ?_)
    refine j_aload_n (pc := 85) C dX3_simulate_85 rfl ?_
    refine j_getR (pc := 86) C dX3_simulate_86 fl_X3_13 fr_X3_3 (fun v12 => ?_)
    refine j_iconst (pc := 89) C dX3_simulate_89 (v := 2) rfl ?_
    refine j_iaload (pc := 90) C dX3_simulate_90 (fun v13 => ?_)
    refine j_isub (pc := 91) C dX3_simulate_91 ?_
    refine j_nm (st' := fun x9 : Int32 => .int x9 :: []) rfl (fun y14 => ?_)
    refine j_istore (pc := 92) C dX3_simulate_92 (Nat.le_of_ble_eq_true rfl) (ls' := [(6, .int y14), (0, .ref x0), (3, .int x3), (4, .long x4)]) rfl ?_
    refine j_sipush (pc := 94) C dX3_simulate_94 (v := 10000) rfl ?_
    refine j_aload_n (pc := 97) C dX3_simulate_97 rfl ?_
    refine j_getR (pc := 98) C dX3_simulate_98 fl_X3_16 fr_X3_4 (fun v15 => ?_)
    refine j_iconst (pc := 101) C dX3_simulate_101 (v := 5) rfl ?_
    refine j_iaload (pc := 102) C dX3_simulate_102 (fun v16 => ?_)
    refine j_aload_n (pc := 103) C dX3_simulate_103 rfl ?_
    refine j_getR (pc := 104) C dX3_simulate_104 fl_X3_13 fr_X3_3 (fun v17 => ?_)
    refine j_iconst (pc := 107) C dX3_simulate_107 (v := 5) rfl ?_
    refine j_iaload (pc := 108) C dX3_simulate_108 (fun v18 => ?_)
    refine j_isub (pc := 109) C dX3_simulate_109 ?_
    refine j_imul (pc := 110) C dX3_simulate_110 ?_
    refine j_bipush (pc := 111) C dX3_simulate_111 (v := 100) rfl ?_
    refine j_aload_n (pc := 113) C dX3_simulate_113 rfl ?_
    refine j_getR (pc := 114) C dX3_simulate_114 fl_X3_16 fr_X3_4 (fun v19 => ?_)
    refine j_iconst (pc := 117) C dX3_simulate_117 (v := 4) rfl ?_
    refine j_iaload (pc := 118) C dX3_simulate_118 (fun v20 => ?_)
    refine j_aload_n (pc := 119) C dX3_simulate_119 rfl ?_
    refine j_getR (pc := 120) C dX3_simulate_120 fl_X3_13 fr_X3_3 (fun v21 => ?_)
    refine j_iconst (pc := 123) C dX3_simulate_123 (v := 4) rfl ?_
    refine j_iaload (pc := 124) C dX3_simulate_124 (fun v22 => ?_)
    refine j_isub (pc := 125) C dX3_simulate_125 ?_
    refine j_imul (pc := 126) C dX3_simulate_126 ?_
    refine j_iadd (pc := 127) C dX3_simulate_127 ?_
    refine j_iload (pc := 128) C dX3_simulate_128 rfl ?_
    refine j_bipush (pc := 130) C dX3_simulate_130 (v := 99) rfl ?_
    refine j_icmp_le (pc := 132) C dX3_simulate_132 (tgt := 140) (by decide) (fun hc23 => ?_) (fun hc23 => ?_)
    · refine j_iload (pc := 140) C dX3_simulate_140 rfl ?_
      refine j_loc [] rfl ?_
      exact t_X3_simulate_b142 C  y14 (((10000 : Int32) * (v16 - v18)) + ((100 : Int32) * (v20 - v22))) M
    · refine j_bipush (pc := 135) C dX3_simulate_135 (v := 99) rfl ?_
      refine j_goto (pc := 137) C dX3_simulate_137 (tgt := 142) (by decide) ?_
      refine j_loc [] rfl ?_
      exact t_X3_simulate_b142 C  (99 : Int32) (((10000 : Int32) * (v16 - v18)) + ((100 : Int32) * (v20 - v22))) M
  · refine j_lload (pc := 51) C dX3_simulate_51 rfl ?_
    refine j_ldc2 (pc := 53) C dX3_simulate_53 (v := 6364136223846793005) w9_1022 ?_
    refine j_lmul (pc := 56) C dX3_simulate_56 ?_
    refine j_ldc2 (pc := 57) C dX3_simulate_57 (v := 1442695040888963407) w9_1023 ?_
    refine j_ladd (pc := 60) C dX3_simulate_60 ?_
    refine j_nm (st' := fun x9 : Int64 => .long x9 :: []) rfl (fun y24 => ?_)
    refine j_lstore (pc := 61) C dX3_simulate_61 (Nat.le_of_ble_eq_true rfl) (ls' := [(4, .long y24), (0, .ref x0), (3, .int x3), (6, .int x6)]) rfl ?_
    refine j_aload_n (pc := 63) C dX3_simulate_63 rfl ?_
    refine j_lload (pc := 64) C dX3_simulate_64 rfl ?_
    refine j_bipush (pc := 66) C dX3_simulate_66 (v := 33) rfl ?_
    refine j_lushr (pc := 68) C dX3_simulate_68 (v := (UInt64.toInt64 (Int64.toUInt64 y24 >>> (Int64.toUInt64 (Int32.toInt64 (33 : Int32)) &&& Int64.toUInt64 63)))) rfl ?_
    refine j_l2i (pc := 69) C dX3_simulate_69 ?_
    refine j_callVv (pc := 70) C rfl dX3_simulate_70 lv_X3_227 rfl (Nat.le_of_ble_eq_true rfl) (Nat.le_of_ble_eq_true rfl) (by decide) (Or.inl rfl) ⟨Nat.le_refl _, Nat.le_refl _⟩ (fun l hl o ho => sp_X3_turn hl ho) (fun M25 => ?_)
    refine j_iinc (pc := 73) C dX3_simulate_73 rfl (v := (x6 + (1 : Int32))) rfl (Nat.le_of_ble_eq_true rfl) (ls' := [(6, .int (x6 + (1 : Int32))), (4, .long y24), (0, .ref x0), (3, .int x3)]) rfl ?_
    refine j_goto (pc := 76) C dX3_simulate_76 (tgt := 45) (by decide) ?_
    refine j_loc [2, 3, 1, 0] rfl ?_
    exact h45 x0 x3 y24 (x6 + (1 : Int32)) M25
theorem t_X3_simulate_l45 {z : Sh9} {N : Nv9} {X : Cx9} {out : Out9 × Mem9} (C : OK9 z N X out 7 (co9 out.1) cX3_simulate RX3 9 1 [])  : ∀ (n : Nat) (x0 : Nat) (x3 : Int32) (x4 : Int64) (x6 : Int32) (M : Mem9), J9 z N X out 7 45 [(0, .ref x0), (3, .int x3), (4, .long x4), (6, .int x6)] [] M (0, 0) (fx9 (fun _ _ _ _ _ => none) (f_X3_simulate_b45 z ) n x0 x3 x4 x6 M) := by
  intro n
  induction n with
  | zero => intro x0 x3 x4 x6 M; exact j_none
  | succ n ih => intro x0 x3 x4 x6 M; exact t_X3_simulate_b45 C  ih x0 x3 x4 x6 M
def f_X3_simulate_b18 (z : Sh9)  (x0 : Nat) (x1 : Int64) (x3 : Int32) (s0 : Int32) (s1 : Nat) (M : Mem9) : Re9 :=
  (bi9 (iv9 z s1 3 (f_X3_refused z s1 s0 M)) fun v5 M4 => (if v5 = 0 then ((rf9 z x0 3 2).bind fun v6 => ((rf9 z x0 3 3).bind fun v7 => (bv9 (f_X3_copyState z v6 (0 : Int32) v7 (0 : Int32) M4) fun M8 => (fx9 (fun _ _ _ _ _ => none) (f_X3_simulate_b45 z ) FU9 x0 x3 x1 (0 : Int32) M8)))) else (ri9 (0 : Int32) M4)))
set_option maxRecDepth 20000 in
set_option maxHeartbeats 4000000 in
theorem t_X3_simulate_b18 {z : Sh9} {N : Nv9} {X : Cx9} {out : Out9 × Mem9} (C : OK9 z N X out 7 (co9 out.1) cX3_simulate RX3 9 1 [])  (x0 : Nat) (x1 : Int64) (x3 : Int32) (s0 : Int32) (s1 : Nat) (M : Mem9) : J9 z N X out 7 18 [(0, .ref x0), (1, .long x1), (3, .int x3)] [.int s0, .ref s1] M (0, 0) (f_X3_simulate_b18 z  x0 x1 x3 s0 s1 M) := by
  refine j_callVi (pc := 18) C rfl dX3_simulate_18 lv_X3_130 rfl (Nat.le_of_ble_eq_true rfl) (Nat.le_of_ble_eq_true rfl) (by decide) (Or.inl rfl) ⟨Nat.le_refl _, Nat.le_refl _⟩ (fun l hl o ho => sp_X3_refused hl ho) (fun v5 M4 => ?_)
  refine j_if_eq (pc := 21) C dX3_simulate_21 (tgt := 26) (by decide) (fun hc9 => ?_) (fun hc9 => ?_)
  · refine j_aload_n (pc := 26) C dX3_simulate_26 rfl ?_
    refine j_getR (pc := 27) C dX3_simulate_27 fl_X3_13 fr_X3_3 (fun v6 => ?_)
    refine j_iconst (pc := 30) C dX3_simulate_30 (v := 0) rfl ?_
    refine j_aload_n (pc := 31) C dX3_simulate_31 rfl ?_
    refine j_getR (pc := 32) C dX3_simulate_32 fl_X3_16 fr_X3_4 (fun v7 => ?_)
    refine j_iconst (pc := 35) C dX3_simulate_35 (v := 0) rfl ?_
    refine j_callSv (pc := 36) C rfl dX3_simulate_36 ls_X3_187 rfl (Nat.le_of_ble_eq_true rfl) (Nat.le_of_ble_eq_true rfl) (by decide) (Or.inl rfl) ⟨Nat.le_refl _, Nat.le_refl _⟩ (fun l hl o ho => sp_X3_copyState hl ho) (fun M8 => ?_)
    refine j_lload_n (pc := 39) C dX3_simulate_39 rfl ?_
    refine j_lstore (pc := 40) C dX3_simulate_40 (Nat.le_of_ble_eq_true rfl) (ls' := [(4, .long x1), (0, .ref x0), (1, .long x1), (3, .int x3)]) rfl ?_
    refine j_iconst (pc := 42) C dX3_simulate_42 (v := 0) rfl ?_
    refine j_istore (pc := 43) C dX3_simulate_43 (Nat.le_of_ble_eq_true rfl) (ls' := [(6, .int (0 : Int32)), (4, .long x1), (0, .ref x0), (1, .long x1), (3, .int x3)]) rfl ?_
    refine j_loc [2, 4, 1, 0] rfl ?_
    exact t_X3_simulate_l45 C  FU9 x0 x3 x1 (0 : Int32) M8
  · refine j_iconst (pc := 24) C dX3_simulate_24 (v := 0) rfl ?_
    exact j_ireturn (pc := 25) C rfl dX3_simulate_25 ⟨Nat.zero_le _, Nat.zero_le _⟩
def f_X3_simulate (z : Sh9) (a0 : Nat) (a1 : Int64) (a2 : Int32) (M : Mem9) : Re9 :=
  (bi9 (f_X3_in z (Int32.toInt64 a2) (1 : Int64) (60 : Int64) M) fun v2 M1 => (if v2 = 0 then (f_X3_simulate_b18 z  a0 a1 a2 (1 : Int32) a0 M1) else (f_X3_simulate_b18 z  a0 a1 a2 (0 : Int32) a0 M1)))
set_option maxRecDepth 20000 in
set_option maxHeartbeats 4000000 in
theorem t_X3_simulate {z : Sh9} {N : Nv9} {X : Cx9} {out : Out9 × Mem9} (C : OK9 z N X out 7 (co9 out.1) cX3_simulate RX3 9 1 []) (a0 : Nat) (a1 : Int64) (a2 : Int32) (M : Mem9) : J9 z N X out 7 0 [(0, .ref a0), (1, .long a1), (3, .int a2)] [] M (0, 0) (f_X3_simulate z a0 a1 a2 M) := by
  refine j_aload_n (pc := 0) C dX3_simulate_0 rfl ?_
  refine j_iload_n (pc := 1) C dX3_simulate_1 rfl ?_
  refine j_i2l (pc := 2) C dX3_simulate_2 ?_
  refine j_lconst (pc := 3) C dX3_simulate_3 (v := 1) rfl ?_
  refine j_ldc2 (pc := 4) C dX3_simulate_4 (v := 60) w9_970 ?_
  refine j_callSi (pc := 7) C rfl dX3_simulate_7 ls_X3_40 rfl (Nat.le_of_ble_eq_true rfl) (Nat.le_of_ble_eq_true rfl) (by decide) (Or.inl rfl) ⟨Nat.le_refl _, Nat.le_refl _⟩ (fun l hl o ho => sp_X3_in hl ho) (fun v2 M1 => ?_)
  refine j_if_eq (pc := 10) C dX3_simulate_10 (tgt := 17) (by decide) (fun hc3 => ?_) (fun hc3 => ?_)
  · refine j_iconst (pc := 17) C dX3_simulate_17 (v := 1) rfl ?_
    exact t_X3_simulate_b18 C  a0 a1 a2 (1 : Int32) a0 M1
  · refine j_iconst (pc := 13) C dX3_simulate_13 (v := 0) rfl ?_
    refine j_goto (pc := 14) C dX3_simulate_14 (tgt := 18) (by decide) ?_
    exact t_X3_simulate_b18 C  a0 a1 a2 (0 : Int32) a0 M1
theorem sp_X3_simulate {l : Launch} {z : Sh9} {N : Nv9} {a0 : Nat} {a1 : Int64} {a2 : Int32} {M : Mem9} {o : Out9 × Mem9} (hl : l.stackTraces = false) (h : f_X3_simulate z a0 a1 a2 M = some o) : Sp9 l z N yX3_simulate (Cond.code yX3_simulate cX3_simulate 7 (some .int)) 9 [.ref a0, .long a1, .int a2] M (co9 o.1) o :=
  sp9_of (rk := 1) (own := RX3) (by decide +kernel) rfl (Or.inr (Or.inl ⟨rfl, rfl⟩)) hl (Nat.le_of_ble_eq_true rfl) (fun X C => t_X3_simulate C a0 a1 a2 M) h
def f_X3_isVehicle (z : Sh9) (a0 : Nat) (a1 : Int32) (a2 : Int32) (M : Mem9) : Re9 :=
  (bi9 (f_X3_isLane z a0 a1 M) fun v2 M1 => (if v2 = 0 then (rz9 (0 : Int32) M1) else (bi9 (f_X3_of z a0 a1 (0 : Int32) M1) fun v4 M3 => (bi9 (f_X3_in z (Int32.toInt64 a2) (0 : Int64) (Int32.toInt64 (v4 - (1 : Int32))) M3) fun v6 M5 => (if v6 = 0 then (rz9 (0 : Int32) M5) else (rz9 (1 : Int32) M5))))))
set_option maxRecDepth 20000 in
set_option maxHeartbeats 4000000 in
theorem t_X3_isVehicle {z : Sh9} {N : Nv9} {X : Cx9} {out : Out9 × Mem9} (C : OK9 z N X out 3 (co9 out.1) cX3_isVehicle RX3 2 2 []) (a0 : Nat) (a1 : Int32) (a2 : Int32) (M : Mem9) : J9 z N X out 3 0 [(0, .ref a0), (1, .int a1), (2, .int a2)] [] M (0, 0) (f_X3_isVehicle z a0 a1 a2 M) := by
  refine j_aload_n (pc := 0) C dX3_isVehicle_0 rfl ?_
  refine j_iload_n (pc := 1) C dX3_isVehicle_1 rfl ?_
  refine j_callSi (pc := 2) C rfl dX3_isVehicle_2 ls_X3_44 rfl (Nat.le_of_ble_eq_true rfl) (Nat.le_of_ble_eq_true rfl) (by decide) (Or.inl rfl) ⟨Nat.le_refl _, Nat.le_refl _⟩ (fun l hl o ho => sp_X3_isLane hl ho) (fun v2 M1 => ?_)
  refine j_if_eq (pc := 5) C dX3_isVehicle_5 (tgt := 30) (by decide) (fun hc8 => ?_) (fun hc8 => ?_)
  · refine j_iconst (pc := 30) C dX3_isVehicle_30 (v := 0) rfl ?_
    exact j_zreturn (pc := 31) C rfl dX3_isVehicle_31 ⟨Nat.zero_le _, Nat.zero_le _⟩
  · refine j_iload_n (pc := 8) C dX3_isVehicle_8 rfl ?_
    refine j_i2l (pc := 9) C dX3_isVehicle_9 ?_
    refine j_lconst (pc := 10) C dX3_isVehicle_10 (v := 0) rfl ?_
    refine j_aload_n (pc := 11) C dX3_isVehicle_11 rfl ?_
    refine j_iload_n (pc := 12) C dX3_isVehicle_12 rfl ?_
    refine j_iconst (pc := 13) C dX3_isVehicle_13 (v := 0) rfl ?_
    refine j_callSi (pc := 14) C rfl dX3_isVehicle_14 ls_X3_48 rfl (Nat.le_of_ble_eq_true rfl) (Nat.le_of_ble_eq_true rfl) (by decide) (Or.inl rfl) ⟨Nat.le_refl _, Nat.le_refl _⟩ (fun l hl o ho => sp_X3_of hl ho) (fun v4 M3 => ?_)
    refine j_iconst (pc := 17) C dX3_isVehicle_17 (v := 1) rfl ?_
    refine j_isub (pc := 18) C dX3_isVehicle_18 ?_
    refine j_i2l (pc := 19) C dX3_isVehicle_19 ?_
    refine j_callSi (pc := 20) C rfl dX3_isVehicle_20 ls_X3_40 rfl (Nat.le_of_ble_eq_true rfl) (Nat.le_of_ble_eq_true rfl) (by decide) (Or.inl rfl) ⟨Nat.le_refl _, Nat.le_refl _⟩ (fun l hl o ho => sp_X3_in hl ho) (fun v6 M5 => ?_)
    refine j_if_eq (pc := 23) C dX3_isVehicle_23 (tgt := 30) (by decide) (fun hc7 => ?_) (fun hc7 => ?_)
    · refine j_iconst (pc := 30) C dX3_isVehicle_30 (v := 0) rfl ?_
      exact j_zreturn (pc := 31) C rfl dX3_isVehicle_31 ⟨Nat.zero_le _, Nat.zero_le _⟩
    · refine j_iconst (pc := 26) C dX3_isVehicle_26 (v := 1) rfl ?_
      refine j_goto (pc := 27) C dX3_isVehicle_27 (tgt := 31) (by decide) ?_
      exact j_zreturn (pc := 31) C rfl dX3_isVehicle_31 ⟨Nat.zero_le _, Nat.zero_le _⟩
theorem sp_X3_isVehicle {l : Launch} {z : Sh9} {N : Nv9} {a0 : Nat} {a1 : Int32} {a2 : Int32} {M : Mem9} {o : Out9 × Mem9} (hl : l.stackTraces = false) (h : f_X3_isVehicle z a0 a1 a2 M = some o) : Sp9 l z N yX3_isVehicle (Cond.code yX3_isVehicle cX3_isVehicle 3 (some .boolean)) 2 [.ref a0, .int a1, .int a2] M (co9 o.1) o :=
  sp9_of (rk := 2) (own := RX3) (by decide +kernel) rfl (Or.inr (Or.inr (Or.inl ⟨rfl, rfl⟩))) hl (Nat.le_of_ble_eq_true rfl) (fun X C => t_X3_isVehicle C a0 a1 a2 M) h
def f_X3_throughIn_b18 (z : Sh9)  (x0 : Nat) (x1 : Int32) (x2 : Int32) (s0 : Int32) (s1 : Nat) (M : Mem9) : Re9 :=
  (bi9 (iv9 z s1 3 (f_X3_refused z s1 s0 M)) fun v6 M5 => (if v6 = 0 then ((rf9 z x0 3 2).bind fun v7 => ((rf9 z x0 3 3).bind fun v8 => (bv9 (f_X3_copyState z v7 (0 : Int32) v8 (0 : Int32) M5) fun M9 => ((rf9 z x0 3 3).bind fun v10 => (bi9 (iv9 z x0 3 (f_X3_through z x0 v10 x1 x2 M9)) fun v12 M11 => (ri9 v12 M11)))))) else (ri9 (0 : Int32) M5)))
set_option maxRecDepth 20000 in
set_option maxHeartbeats 4000000 in
theorem t_X3_throughIn_b18 {z : Sh9} {N : Nv9} {X : Cx9} {out : Out9 × Mem9} (C : OK9 z N X out 3 (co9 out.1) cX3_throughIn RX3 8 1 [])  (x0 : Nat) (x1 : Int32) (x2 : Int32) (s0 : Int32) (s1 : Nat) (M : Mem9) : J9 z N X out 3 18 [(0, .ref x0), (1, .int x1), (2, .int x2)] [.int s0, .ref s1] M (0, 0) (f_X3_throughIn_b18 z  x0 x1 x2 s0 s1 M) := by
  refine j_callVi (pc := 18) C rfl dX3_throughIn_18 lv_X3_130 rfl (Nat.le_of_ble_eq_true rfl) (Nat.le_of_ble_eq_true rfl) (by decide) (Or.inl rfl) ⟨Nat.le_refl _, Nat.le_refl _⟩ (fun l hl o ho => sp_X3_refused hl ho) (fun v6 M5 => ?_)
  refine j_if_eq (pc := 21) C dX3_throughIn_21 (tgt := 26) (by decide) (fun hc13 => ?_) (fun hc13 => ?_)
  · refine j_aload_n (pc := 26) C dX3_throughIn_26 rfl ?_
    refine j_getR (pc := 27) C dX3_throughIn_27 fl_X3_13 fr_X3_3 (fun v7 => ?_)
    refine j_iconst (pc := 30) C dX3_throughIn_30 (v := 0) rfl ?_
    refine j_aload_n (pc := 31) C dX3_throughIn_31 rfl ?_
    refine j_getR (pc := 32) C dX3_throughIn_32 fl_X3_16 fr_X3_4 (fun v8 => ?_)
    refine j_iconst (pc := 35) C dX3_throughIn_35 (v := 0) rfl ?_
    refine j_callSv (pc := 36) C rfl dX3_throughIn_36 ls_X3_187 rfl (Nat.le_of_ble_eq_true rfl) (Nat.le_of_ble_eq_true rfl) (by decide) (Or.inl rfl) ⟨Nat.le_refl _, Nat.le_refl _⟩ (fun l hl o ho => sp_X3_copyState hl ho) (fun M9 => ?_)
    refine j_aload_n (pc := 39) C dX3_throughIn_39 rfl ?_
    refine j_aload_n (pc := 40) C dX3_throughIn_40 rfl ?_
    refine j_getR (pc := 41) C dX3_throughIn_41 fl_X3_16 fr_X3_4 (fun v10 => ?_)
    refine j_iload_n (pc := 44) C dX3_throughIn_44 rfl ?_
    refine j_iload_n (pc := 45) C dX3_throughIn_45 rfl ?_
    refine j_callVi (pc := 46) C rfl dX3_throughIn_46 lv_X3_211 rfl (Nat.le_of_ble_eq_true rfl) (Nat.le_of_ble_eq_true rfl) (by decide) (Or.inl rfl) ⟨Nat.le_refl _, Nat.le_refl _⟩ (fun l hl o ho => sp_X3_through hl ho) (fun v12 M11 => ?_)
    exact j_ireturn (pc := 49) C rfl dX3_throughIn_49 ⟨Nat.zero_le _, Nat.zero_le _⟩
  · refine j_iconst (pc := 24) C dX3_throughIn_24 (v := 0) rfl ?_
    exact j_ireturn (pc := 25) C rfl dX3_throughIn_25 ⟨Nat.zero_le _, Nat.zero_le _⟩
def f_X3_throughIn (z : Sh9) (a0 : Nat) (a1 : Int32) (a2 : Int32) (M : Mem9) : Re9 :=
  ((rf9 z a0 3 2).bind fun v1 => (bi9 (f_X3_isVehicle z v1 a1 a2 M) fun v3 M2 => (if v3 = 0 then (f_X3_throughIn_b18 z  a0 a1 a2 (1 : Int32) a0 M2) else (f_X3_throughIn_b18 z  a0 a1 a2 (0 : Int32) a0 M2))))
set_option maxRecDepth 20000 in
set_option maxHeartbeats 4000000 in
theorem t_X3_throughIn {z : Sh9} {N : Nv9} {X : Cx9} {out : Out9 × Mem9} (C : OK9 z N X out 3 (co9 out.1) cX3_throughIn RX3 8 1 []) (a0 : Nat) (a1 : Int32) (a2 : Int32) (M : Mem9) : J9 z N X out 3 0 [(0, .ref a0), (1, .int a1), (2, .int a2)] [] M (0, 0) (f_X3_throughIn z a0 a1 a2 M) := by
  refine j_aload_n (pc := 0) C dX3_throughIn_0 rfl ?_
  refine j_aload_n (pc := 1) C dX3_throughIn_1 rfl ?_
  refine j_getR (pc := 2) C dX3_throughIn_2 fl_X3_13 fr_X3_3 (fun v1 => ?_)
  refine j_iload_n (pc := 5) C dX3_throughIn_5 rfl ?_
  refine j_iload_n (pc := 6) C dX3_throughIn_6 rfl ?_
  refine j_callSi (pc := 7) C rfl dX3_throughIn_7 ls_X3_196 rfl (Nat.le_of_ble_eq_true rfl) (Nat.le_of_ble_eq_true rfl) (by decide) (Or.inl rfl) ⟨Nat.le_refl _, Nat.le_refl _⟩ (fun l hl o ho => sp_X3_isVehicle hl ho) (fun v3 M2 => ?_)
  refine j_if_eq (pc := 10) C dX3_throughIn_10 (tgt := 17) (by decide) (fun hc4 => ?_) (fun hc4 => ?_)
  · refine j_iconst (pc := 17) C dX3_throughIn_17 (v := 1) rfl ?_
    exact t_X3_throughIn_b18 C  a0 a1 a2 (1 : Int32) a0 M2
  · refine j_iconst (pc := 13) C dX3_throughIn_13 (v := 0) rfl ?_
    refine j_goto (pc := 14) C dX3_throughIn_14 (tgt := 18) (by decide) ?_
    exact t_X3_throughIn_b18 C  a0 a1 a2 (0 : Int32) a0 M2
theorem sp_X3_throughIn {l : Launch} {z : Sh9} {N : Nv9} {a0 : Nat} {a1 : Int32} {a2 : Int32} {M : Mem9} {o : Out9 × Mem9} (hl : l.stackTraces = false) (h : f_X3_throughIn z a0 a1 a2 M = some o) : Sp9 l z N yX3_throughIn (Cond.code yX3_throughIn cX3_throughIn 3 (some .int)) 8 [.ref a0, .int a1, .int a2] M (co9 o.1) o :=
  sp9_of (rk := 1) (own := RX3) (by decide +kernel) rfl (Or.inr (Or.inl ⟨rfl, rfl⟩)) hl (Nat.le_of_ble_eq_true rfl) (fun X C => t_X3_throughIn C a0 a1 a2 M) h
def f_X3_thrown (z : Sh9) (a0 : Nat) (M : Mem9) : Re9 :=
  ((gf9 z M a0 3 0).bind fun v1 => (ri9 v1 M))
set_option maxRecDepth 20000 in
set_option maxHeartbeats 4000000 in
theorem t_X3_thrown {z : Sh9} {N : Nv9} {X : Cx9} {out : Out9 × Mem9} (C : OK9 z N X out 1 (co9 out.1) cX3_thrown RX3 0 1 []) (a0 : Nat) (M : Mem9) : J9 z N X out 1 0 [(0, .ref a0)] [] M (0, 0) (f_X3_thrown z a0 M) := by
  refine j_aload_n (pc := 0) C dX3_thrown_0 rfl ?_
  refine j_getI (pc := 1) C dX3_thrown_1 fl_X3_36 fi_X3_0 (fun v1 => ?_)
  exact j_ireturn (pc := 4) C rfl dX3_thrown_4 ⟨Nat.zero_le _, Nat.zero_le _⟩
theorem sp_X3_thrown {l : Launch} {z : Sh9} {N : Nv9} {a0 : Nat} {M : Mem9} {o : Out9 × Mem9} (hl : l.stackTraces = false) (h : f_X3_thrown z a0 M = some o) : Sp9 l z N yX3_thrown (Cond.code yX3_thrown cX3_thrown 1 (some .int)) 0 [.ref a0] M (co9 o.1) o :=
  sp9_of (rk := 1) (own := RX3) (by decide +kernel) rfl (Or.inr (Or.inl ⟨rfl, rfl⟩)) hl (Nat.le_of_ble_eq_true rfl) (fun X C => t_X3_thrown C a0 M) h
def f_X3_undo_b13 (z : Sh9)  (x0 : Nat) (s0 : Int32) (s1 : Nat) (M : Mem9) : Re9 :=
  (bi9 (iv9 z s1 3 (f_X3_refused z s1 s0 M)) fun v4 M3 => (if v4 = 0 then ((gf9 z M3 x0 3 6).bind fun v5 => ((pf9 z M3 x0 3 6 (v5 - (1 : Int32))).bind fun M6 => ((rf9 z x0 3 4).bind fun v7 => ((gf9 z M6 x0 3 6).bind fun v8 => ((rf9 z x0 3 2).bind fun v9 => (bv9 (f_X3_copyState z v7 ((121 : Int32) * v8) v9 (0 : Int32) M6) fun M10 => ((gf9 z M10 x0 3 6).bind fun v11 => (ri9 v11 M10)))))))) else (ri9 (0 : Int32) M3)))
set_option maxRecDepth 20000 in
set_option maxHeartbeats 4000000 in
theorem t_X3_undo_b13 {z : Sh9} {N : Nv9} {X : Cx9} {out : Out9 × Mem9} (C : OK9 z N X out 1 (co9 out.1) cX3_undo RX3 1 1 [])  (x0 : Nat) (s0 : Int32) (s1 : Nat) (M : Mem9) : J9 z N X out 1 13 [(0, .ref x0)] [.int s0, .ref s1] M (0, 0) (f_X3_undo_b13 z  x0 s0 s1 M) := by
  refine j_callVi (pc := 13) C rfl dX3_undo_13 lv_X3_130 rfl (Nat.le_of_ble_eq_true rfl) (Nat.le_of_ble_eq_true rfl) (by decide) (Or.inl rfl) ⟨Nat.le_refl _, Nat.le_refl _⟩ (fun l hl o ho => sp_X3_refused hl ho) (fun v4 M3 => ?_)
  refine j_if_eq (pc := 16) C dX3_undo_16 (tgt := 21) (by decide) (fun hc12 => ?_) (fun hc12 => ?_)
  · refine j_aload_n (pc := 21) C dX3_undo_21 rfl ?_
    refine j_dup (pc := 22) C dX3_undo_22 rfl ?_
    refine j_getI (pc := 23) C dX3_undo_23 fl_X3_191 fi_X3_6 (fun v5 => ?_)
    refine j_iconst (pc := 26) C dX3_undo_26 (v := 1) rfl ?_
    refine j_isub (pc := 27) C dX3_undo_27 ?_
    refine j_putI (pc := 28) C dX3_undo_28 fl_X3_191 fi_X3_6 rfl rfl (fun M6 => ?_)
    refine j_aload_n (pc := 31) C dX3_undo_31 rfl ?_
    refine j_getR (pc := 32) C dX3_undo_32 fl_X3_19 fr_X3_5 (fun v7 => ?_)
    refine j_bipush (pc := 35) C dX3_undo_35 (v := 121) rfl ?_
    refine j_aload_n (pc := 37) C dX3_undo_37 rfl ?_
    refine j_getI (pc := 38) C dX3_undo_38 fl_X3_191 fi_X3_6 (fun v8 => ?_)
    refine j_imul (pc := 41) C dX3_undo_41 ?_
    refine j_aload_n (pc := 42) C dX3_undo_42 rfl ?_
    refine j_getR (pc := 43) C dX3_undo_43 fl_X3_13 fr_X3_3 (fun v9 => ?_)
    refine j_iconst (pc := 46) C dX3_undo_46 (v := 0) rfl ?_
    refine j_callSv (pc := 47) C rfl dX3_undo_47 ls_X3_187 rfl (Nat.le_of_ble_eq_true rfl) (Nat.le_of_ble_eq_true rfl) (by decide) (Or.inl rfl) ⟨Nat.le_refl _, Nat.le_refl _⟩ (fun l hl o ho => sp_X3_copyState hl ho) (fun M10 => ?_)
    refine j_aload_n (pc := 50) C dX3_undo_50 rfl ?_
    refine j_getI (pc := 51) C dX3_undo_51 fl_X3_191 fi_X3_6 (fun v11 => ?_)
    exact j_ireturn (pc := 54) C rfl dX3_undo_54 ⟨Nat.zero_le _, Nat.zero_le _⟩
  · refine j_iconst (pc := 19) C dX3_undo_19 (v := 0) rfl ?_
    exact j_ireturn (pc := 20) C rfl dX3_undo_20 ⟨Nat.zero_le _, Nat.zero_le _⟩
def f_X3_undo (z : Sh9) (a0 : Nat) (M : Mem9) : Re9 :=
  ((gf9 z M a0 3 6).bind fun v1 => (if v1 = 0 then (f_X3_undo_b13 z  a0 (1 : Int32) a0 M) else (f_X3_undo_b13 z  a0 (0 : Int32) a0 M)))
set_option maxRecDepth 20000 in
set_option maxHeartbeats 4000000 in
theorem t_X3_undo {z : Sh9} {N : Nv9} {X : Cx9} {out : Out9 × Mem9} (C : OK9 z N X out 1 (co9 out.1) cX3_undo RX3 1 1 []) (a0 : Nat) (M : Mem9) : J9 z N X out 1 0 [(0, .ref a0)] [] M (0, 0) (f_X3_undo z a0 M) := by
  refine j_aload_n (pc := 0) C dX3_undo_0 rfl ?_
  refine j_aload_n (pc := 1) C dX3_undo_1 rfl ?_
  refine j_getI (pc := 2) C dX3_undo_2 fl_X3_191 fi_X3_6 (fun v1 => ?_)
  refine j_if_ne (pc := 5) C dX3_undo_5 (tgt := 12) (by decide) (fun hc2 => ?_) (fun hc2 => ?_)
  · refine j_iconst (pc := 12) C dX3_undo_12 (v := 0) rfl ?_
    exact t_X3_undo_b13 C  a0 (0 : Int32) a0 M
  · refine j_iconst (pc := 8) C dX3_undo_8 (v := 1) rfl ?_
    refine j_goto (pc := 9) C dX3_undo_9 (tgt := 13) (by decide) ?_
    exact t_X3_undo_b13 C  a0 (1 : Int32) a0 M
theorem sp_X3_undo {l : Launch} {z : Sh9} {N : Nv9} {a0 : Nat} {M : Mem9} {o : Out9 × Mem9} (hl : l.stackTraces = false) (h : f_X3_undo z a0 M = some o) : Sp9 l z N yX3_undo (Cond.code yX3_undo cX3_undo 1 (some .int)) 1 [.ref a0] M (co9 o.1) o :=
  sp9_of (rk := 1) (own := RX3) (by decide +kernel) rfl (Or.inr (Or.inl ⟨rfl, rfl⟩)) hl (Nat.le_of_ble_eq_true rfl) (fun X C => t_X3_undo C a0 M) h
def f_X3_vehicle_b34 (z : Sh9)  (x0 : Nat) (x1 : Int32) (x2 : Int32) (x3 : Int32) (s0 : Int32) (s1 : Nat) (M : Mem9) : Re9 :=
  (bi9 (iv9 z s1 3 (f_X3_refused z s1 s0 M)) fun v9 M8 => (if v9 = 0 then ((rf9 z x0 3 2).bind fun v10 => (bi9 (f_X3_told z v10 x1 x2 x3 M8) fun v12 M11 => (ri9 v12 M11))) else (ri9 (0 : Int32) M8)))
set_option maxRecDepth 20000 in
set_option maxHeartbeats 4000000 in
theorem t_X3_vehicle_b34 {z : Sh9} {N : Nv9} {X : Cx9} {out : Out9 × Mem9} (C : OK9 z N X out 4 (co9 out.1) cX3_vehicle RX3 3 1 [])  (x0 : Nat) (x1 : Int32) (x2 : Int32) (x3 : Int32) (s0 : Int32) (s1 : Nat) (M : Mem9) : J9 z N X out 4 34 [(0, .ref x0), (1, .int x1), (2, .int x2), (3, .int x3)] [.int s0, .ref s1] M (0, 0) (f_X3_vehicle_b34 z  x0 x1 x2 x3 s0 s1 M) := by
  refine j_callVi (pc := 34) C rfl dX3_vehicle_34 lv_X3_130 rfl (Nat.le_of_ble_eq_true rfl) (Nat.le_of_ble_eq_true rfl) (by decide) (Or.inl rfl) ⟨Nat.le_refl _, Nat.le_refl _⟩ (fun l hl o ho => sp_X3_refused hl ho) (fun v9 M8 => ?_)
  refine j_if_eq (pc := 37) C dX3_vehicle_37 (tgt := 42) (by decide) (fun hc13 => ?_) (fun hc13 => ?_)
  · refine j_aload_n (pc := 42) C dX3_vehicle_42 rfl ?_
    refine j_getR (pc := 43) C dX3_vehicle_43 fl_X3_13 fr_X3_3 (fun v10 => ?_)
    refine j_iload_n (pc := 46) C dX3_vehicle_46 rfl ?_
    refine j_iload_n (pc := 47) C dX3_vehicle_47 rfl ?_
    refine j_iload_n (pc := 48) C dX3_vehicle_48 rfl ?_
    refine j_callSi (pc := 49) C rfl dX3_vehicle_49 ls_X3_56 rfl (Nat.le_of_ble_eq_true rfl) (Nat.le_of_ble_eq_true rfl) (by decide) (Or.inl rfl) ⟨Nat.le_refl _, Nat.le_refl _⟩ (fun l hl o ho => sp_X3_told hl ho) (fun v12 M11 => ?_)
    exact j_ireturn (pc := 52) C rfl dX3_vehicle_52 ⟨Nat.zero_le _, Nat.zero_le _⟩
  · refine j_iconst (pc := 40) C dX3_vehicle_40 (v := 0) rfl ?_
    exact j_ireturn (pc := 41) C rfl dX3_vehicle_41 ⟨Nat.zero_le _, Nat.zero_le _⟩
def f_X3_vehicle (z : Sh9) (a0 : Nat) (a1 : Int32) (a2 : Int32) (a3 : Int32) (M : Mem9) : Re9 :=
  ((rf9 z a0 3 2).bind fun v1 => (bi9 (f_X3_isVehicle z v1 a1 a2 M) fun v3 M2 => (if v3 = 0 then (f_X3_vehicle_b34 z  a0 a1 a2 a3 (1 : Int32) a0 M2) else (bi9 (f_X3_in z (Int32.toInt64 a3) (0 : Int64) (4 : Int64) M2) fun v5 M4 => (if v5 = 0 then (f_X3_vehicle_b34 z  a0 a1 a2 a3 (2 : Int32) a0 M4) else (f_X3_vehicle_b34 z  a0 a1 a2 a3 (0 : Int32) a0 M4))))))
set_option maxRecDepth 20000 in
set_option maxHeartbeats 4000000 in
theorem t_X3_vehicle {z : Sh9} {N : Nv9} {X : Cx9} {out : Out9 × Mem9} (C : OK9 z N X out 4 (co9 out.1) cX3_vehicle RX3 3 1 []) (a0 : Nat) (a1 : Int32) (a2 : Int32) (a3 : Int32) (M : Mem9) : J9 z N X out 4 0 [(0, .ref a0), (1, .int a1), (2, .int a2), (3, .int a3)] [] M (0, 0) (f_X3_vehicle z a0 a1 a2 a3 M) := by
  refine j_aload_n (pc := 0) C dX3_vehicle_0 rfl ?_
  refine j_aload_n (pc := 1) C dX3_vehicle_1 rfl ?_
  refine j_getR (pc := 2) C dX3_vehicle_2 fl_X3_13 fr_X3_3 (fun v1 => ?_)
  refine j_iload_n (pc := 5) C dX3_vehicle_5 rfl ?_
  refine j_iload_n (pc := 6) C dX3_vehicle_6 rfl ?_
  refine j_callSi (pc := 7) C rfl dX3_vehicle_7 ls_X3_196 rfl (Nat.le_of_ble_eq_true rfl) (Nat.le_of_ble_eq_true rfl) (by decide) (Or.inl rfl) ⟨Nat.le_refl _, Nat.le_refl _⟩ (fun l hl o ho => sp_X3_isVehicle hl ho) (fun v3 M2 => ?_)
  refine j_if_ne (pc := 10) C dX3_vehicle_10 (tgt := 17) (by decide) (fun hc7 => ?_) (fun hc7 => ?_)
  · refine j_iload_n (pc := 17) C dX3_vehicle_17 rfl ?_
    refine j_i2l (pc := 18) C dX3_vehicle_18 ?_
    refine j_lconst (pc := 19) C dX3_vehicle_19 (v := 0) rfl ?_
    refine j_ldc2 (pc := 20) C dX3_vehicle_20 (v := 4) w9_934 ?_
    refine j_callSi (pc := 23) C rfl dX3_vehicle_23 ls_X3_40 rfl (Nat.le_of_ble_eq_true rfl) (Nat.le_of_ble_eq_true rfl) (by decide) (Or.inl rfl) ⟨Nat.le_refl _, Nat.le_refl _⟩ (fun l hl o ho => sp_X3_in hl ho) (fun v5 M4 => ?_)
    refine j_if_eq (pc := 26) C dX3_vehicle_26 (tgt := 33) (by decide) (fun hc6 => ?_) (fun hc6 => ?_)
    · refine j_iconst (pc := 33) C dX3_vehicle_33 (v := 2) rfl ?_
      exact t_X3_vehicle_b34 C  a0 a1 a2 a3 (2 : Int32) a0 M4
    · refine j_iconst (pc := 29) C dX3_vehicle_29 (v := 0) rfl ?_
      refine j_goto (pc := 30) C dX3_vehicle_30 (tgt := 34) (by decide) ?_
      exact t_X3_vehicle_b34 C  a0 a1 a2 a3 (0 : Int32) a0 M4
  · refine j_iconst (pc := 13) C dX3_vehicle_13 (v := 1) rfl ?_
    refine j_goto (pc := 14) C dX3_vehicle_14 (tgt := 34) (by decide) ?_
    exact t_X3_vehicle_b34 C  a0 a1 a2 a3 (1 : Int32) a0 M2
theorem sp_X3_vehicle {l : Launch} {z : Sh9} {N : Nv9} {a0 : Nat} {a1 : Int32} {a2 : Int32} {a3 : Int32} {M : Mem9} {o : Out9 × Mem9} (hl : l.stackTraces = false) (h : f_X3_vehicle z a0 a1 a2 a3 M = some o) : Sp9 l z N yX3_vehicle (Cond.code yX3_vehicle cX3_vehicle 4 (some .int)) 3 [.ref a0, .int a1, .int a2, .int a3] M (co9 o.1) o :=
  sp9_of (rk := 1) (own := RX3) (by decide +kernel) rfl (Or.inr (Or.inl ⟨rfl, rfl⟩)) hl (Nat.le_of_ble_eq_true rfl) (fun X C => t_X3_vehicle C a0 a1 a2 a3 M) h
def f_X3_why_b17 (z : Sh9)  (x0 : Nat) (x1 : Int32) (s0 : Int32) (s1 : Nat) (M : Mem9) : Re9 :=
  (bi9 (iv9 z s1 3 (f_X3_refused z s1 s0 M)) fun v6 M5 => (if v6 = 0 then ((rf9 z x0 3 2).bind fun v7 => (bi9 (f_X3_whyOf z v7 x1 M5) fun v9 M8 => (ri9 v9 M8))) else (ri9 (0 : Int32) M5)))
set_option maxRecDepth 20000 in
set_option maxHeartbeats 4000000 in
theorem t_X3_why_b17 {z : Sh9} {N : Nv9} {X : Cx9} {out : Out9 × Mem9} (C : OK9 z N X out 2 (co9 out.1) cX3_why RX3 6 1 [])  (x0 : Nat) (x1 : Int32) (s0 : Int32) (s1 : Nat) (M : Mem9) : J9 z N X out 2 17 [(0, .ref x0), (1, .int x1)] [.int s0, .ref s1] M (0, 0) (f_X3_why_b17 z  x0 x1 s0 s1 M) := by
  refine j_callVi (pc := 17) C rfl dX3_why_17 lv_X3_130 rfl (Nat.le_of_ble_eq_true rfl) (Nat.le_of_ble_eq_true rfl) (by decide) (Or.inl rfl) ⟨Nat.le_refl _, Nat.le_refl _⟩ (fun l hl o ho => sp_X3_refused hl ho) (fun v6 M5 => ?_)
  refine j_if_eq (pc := 20) C dX3_why_20 (tgt := 25) (by decide) (fun hc10 => ?_) (fun hc10 => ?_)
  · refine j_aload_n (pc := 25) C dX3_why_25 rfl ?_
    refine j_getR (pc := 26) C dX3_why_26 fl_X3_13 fr_X3_3 (fun v7 => ?_)
    refine j_iload_n (pc := 29) C dX3_why_29 rfl ?_
    refine j_callSi (pc := 30) C rfl dX3_why_30 ls_X3_201 rfl (Nat.le_of_ble_eq_true rfl) (Nat.le_of_ble_eq_true rfl) (by decide) (Or.inl rfl) ⟨Nat.le_refl _, Nat.le_refl _⟩ (fun l hl o ho => sp_X3_whyOf hl ho) (fun v9 M8 => ?_)
    exact j_ireturn (pc := 33) C rfl dX3_why_33 ⟨Nat.zero_le _, Nat.zero_le _⟩
  · refine j_iconst (pc := 23) C dX3_why_23 (v := 0) rfl ?_
    exact j_ireturn (pc := 24) C rfl dX3_why_24 ⟨Nat.zero_le _, Nat.zero_le _⟩
def f_X3_why (z : Sh9) (a0 : Nat) (a1 : Int32) (M : Mem9) : Re9 :=
  ((rf9 z a0 3 2).bind fun v1 => (bi9 (f_X3_isLane z v1 a1 M) fun v3 M2 => (if v3 = 0 then (f_X3_why_b17 z  a0 a1 (1 : Int32) a0 M2) else (f_X3_why_b17 z  a0 a1 (0 : Int32) a0 M2))))
set_option maxRecDepth 20000 in
set_option maxHeartbeats 4000000 in
theorem t_X3_why {z : Sh9} {N : Nv9} {X : Cx9} {out : Out9 × Mem9} (C : OK9 z N X out 2 (co9 out.1) cX3_why RX3 6 1 []) (a0 : Nat) (a1 : Int32) (M : Mem9) : J9 z N X out 2 0 [(0, .ref a0), (1, .int a1)] [] M (0, 0) (f_X3_why z a0 a1 M) := by
  refine j_aload_n (pc := 0) C dX3_why_0 rfl ?_
  refine j_aload_n (pc := 1) C dX3_why_1 rfl ?_
  refine j_getR (pc := 2) C dX3_why_2 fl_X3_13 fr_X3_3 (fun v1 => ?_)
  refine j_iload_n (pc := 5) C dX3_why_5 rfl ?_
  refine j_callSi (pc := 6) C rfl dX3_why_6 ls_X3_44 rfl (Nat.le_of_ble_eq_true rfl) (Nat.le_of_ble_eq_true rfl) (by decide) (Or.inl rfl) ⟨Nat.le_refl _, Nat.le_refl _⟩ (fun l hl o ho => sp_X3_isLane hl ho) (fun v3 M2 => ?_)
  refine j_if_eq (pc := 9) C dX3_why_9 (tgt := 16) (by decide) (fun hc4 => ?_) (fun hc4 => ?_)
  · refine j_iconst (pc := 16) C dX3_why_16 (v := 1) rfl ?_
    exact t_X3_why_b17 C  a0 a1 (1 : Int32) a0 M2
  · refine j_iconst (pc := 12) C dX3_why_12 (v := 0) rfl ?_
    refine j_goto (pc := 13) C dX3_why_13 (tgt := 17) (by decide) ?_
    exact t_X3_why_b17 C  a0 a1 (0 : Int32) a0 M2
theorem sp_X3_why {l : Launch} {z : Sh9} {N : Nv9} {a0 : Nat} {a1 : Int32} {M : Mem9} {o : Out9 × Mem9} (hl : l.stackTraces = false) (h : f_X3_why z a0 a1 M = some o) : Sp9 l z N yX3_why (Cond.code yX3_why cX3_why 2 (some .int)) 6 [.ref a0, .int a1] M (co9 o.1) o :=
  sp9_of (rk := 1) (own := RX3) (by decide +kernel) rfl (Or.inr (Or.inl ⟨rfl, rfl⟩)) hl (Nat.le_of_ble_eq_true rfl) (fun X C => t_X3_why C a0 a1 M) h
