def f_L_about (z : Sh9) (a0 : Nat) (a1 : Int32) (a2 : Nat) (M : Mem9) : Re9 :=
  (bh9 (iv9 z a0 2 (f_X2_about z a0 a1 M)) (fun v2 M1 => ((sl9 z M1 a2 (0 : Int32) v2).bind fun M3 => (ri9 (0 : Int32) M3))) (fun E9 M9 => (if E9 = "java/lang/IllegalArgumentException" then (ri9 (1 : Int32) M9) else none)))
set_option maxRecDepth 20000 in
set_option maxHeartbeats 4000000 in
theorem t_L_about {z : Sh9} {N : Nv9} {X : Cx9} {out : Out9 × Mem9} (C : OK9 z N X out 4 (1, 6) cL_about RL 7 1 [(0, 9, 12, 13)]) (a0 : Nat) (a1 : Int32) (a2 : Nat) (M : Mem9) : J9 z N X out 4 0 [(0, .ref a0), (1, .int a1), (2, .ref a2)] [] M (0, 0) (f_L_about z a0 a1 a2 M) := by
  refine j_aload_n (pc := 0) C dL_about_0 rfl ?_
  refine j_iconst (pc := 1) C dL_about_1 (v := 0) rfl ?_
  refine j_aload_n (pc := 2) C dL_about_2 rfl ?_
  refine j_iload_n (pc := 3) C dL_about_3 rfl ?_
  refine j_callVh (pc := 4) C dL_about_4 lv_L_21 rfl (Nat.le_of_ble_eq_true rfl) (Nat.le_of_ble_eq_true rfl) (by decide) rfl ⟨Nat.le_refl _, Nat.le_refl _⟩ (fun l hl o ho => sp_X2_about hl ho) (fun v2 M1 => ?_) ?_
  · refine j_i2l (pc := 7) C dL_about_7 ?_
    refine j_lastore (pc := 8) C dL_about_8 (v := v2) (fun M3 => ?_)
    refine j_goto (pc := 9) C dL_about_9 (tgt := 15) (by decide) ?_
    refine j_iconst (pc := 15) C dL_about_15 (v := 0) rfl ?_
    exact j_ireturn (pc := 16) C rfl dL_about_16 ⟨Nat.zero_le _, Nat.zero_le _⟩
  · intro E9 hE9 M9
    simp only [excs9, List.mem_cons, List.not_mem_nil, or_false] at hE9
    rcases hE9 with rfl | rfl | rfl
    · refine Or.inr ⟨12, ⟨[], ⟨0, 9, 12, 13⟩, [], rfl, (fun y hy => by cases hy), by decide, by decide, w9_232, rfl⟩, fun q9 => ?_⟩
      rw [if_pos rfl]
      refine j_astore_n (pc := 12) C dL_about_12 (Nat.le_of_ble_eq_true rfl) (ls' := [(3, .ref q9), (0, .ref a0), (1, .int a1), (2, .ref a2)]) rfl ?_
      refine j_iconst (pc := 13) C dL_about_13 (v := 1) rfl ?_
      exact j_ireturn (pc := 14) C rfl dL_about_14 ⟨Nat.le_refl _, Nat.le_refl _⟩
    · exact Or.inl (by rw [if_neg (by decide +kernel)])
    · exact Or.inl (by rw [if_neg (by decide +kernel)])
theorem sp_L_about {l : Launch} {z : Sh9} {N : Nv9} {a0 : Nat} {a1 : Int32} {a2 : Nat} {M : Mem9} {o : Out9 × Mem9} (hl : l.stackTraces = false) (h : f_L_about z a0 a1 a2 M = some o) : Sp9 l z N yL_about (Cond.codeWith yL_about cL_about 4 (some .int) [(0, 9, 12, 13)]) 7 [.ref a0, .int a1, .ref a2] M (1, 6) o :=
  sp9_ofH (rk := 1) (own := RL) (by decide +kernel) rfl (Or.inr (Or.inl ⟨rfl, rfl⟩)) hl (Nat.le_of_ble_eq_true rfl) (by decide) (fun X C => t_L_about C a0 a1 a2 M) h
def f_L_append (z : Sh9) (a0 : Nat) (a1 : Int32) (a2 : Nat) (M : Mem9) : Re9 :=
  (bh9 (iv9 z a0 2 (f_X2_append z a0 a1 M)) (fun v2 M1 => ((sl9 z M1 a2 (0 : Int32) v2).bind fun M3 => (ri9 (0 : Int32) M3))) (fun E9 M9 => (if E9 = "java/lang/IllegalArgumentException" then (ri9 (1 : Int32) M9) else (if E9 = "java/lang/IllegalStateException" then (ri9 (2 : Int32) M9) else none))))
set_option maxRecDepth 20000 in
set_option maxHeartbeats 4000000 in
theorem t_L_append {z : Sh9} {N : Nv9} {X : Cx9} {out : Out9 × Mem9} (C : OK9 z N X out 4 (1, 6) cL_append RL 7 1 [(0, 9, 12, 13), (0, 9, 15, 15)]) (a0 : Nat) (a1 : Int32) (a2 : Nat) (M : Mem9) : J9 z N X out 4 0 [(0, .ref a0), (1, .int a1), (2, .ref a2)] [] M (0, 0) (f_L_append z a0 a1 a2 M) := by
  refine j_aload_n (pc := 0) C dL_append_0 rfl ?_
  refine j_iconst (pc := 1) C dL_append_1 (v := 0) rfl ?_
  refine j_aload_n (pc := 2) C dL_append_2 rfl ?_
  refine j_iload_n (pc := 3) C dL_append_3 rfl ?_
  refine j_callVh (pc := 4) C dL_append_4 lv_L_7 rfl (Nat.le_of_ble_eq_true rfl) (Nat.le_of_ble_eq_true rfl) (by decide) rfl ⟨Nat.le_refl _, Nat.le_refl _⟩ (fun l hl o ho => sp_X2_append hl ho) (fun v2 M1 => ?_) ?_
  · refine j_i2l (pc := 7) C dL_append_7 ?_
    refine j_lastore (pc := 8) C dL_append_8 (v := v2) (fun M3 => ?_)
    refine j_goto (pc := 9) C dL_append_9 (tgt := 18) (by decide) ?_
    refine j_iconst (pc := 18) C dL_append_18 (v := 0) rfl ?_
    exact j_ireturn (pc := 19) C rfl dL_append_19 ⟨Nat.zero_le _, Nat.zero_le _⟩
  · intro E9 hE9 M9
    simp only [excs9, List.mem_cons, List.not_mem_nil, or_false] at hE9
    rcases hE9 with rfl | rfl | rfl
    · refine Or.inr ⟨12, ⟨[], ⟨0, 9, 12, 13⟩, [⟨0, 9, 15, 15⟩], rfl, (fun y hy => by cases hy), by decide, by decide, w9_232, rfl⟩, fun q9 => ?_⟩
      rw [if_pos rfl]
      refine j_astore_n (pc := 12) C dL_append_12 (Nat.le_of_ble_eq_true rfl) (ls' := [(3, .ref q9), (0, .ref a0), (1, .int a1), (2, .ref a2)]) rfl ?_
      refine j_iconst (pc := 13) C dL_append_13 (v := 1) rfl ?_
      exact j_ireturn (pc := 14) C rfl dL_append_14 ⟨Nat.le_refl _, Nat.le_refl _⟩
    · refine Or.inr ⟨15, ⟨[⟨0, 9, 12, 13⟩], ⟨0, 9, 15, 15⟩, [], rfl, (by
          intro y hy
          simp only [List.mem_cons, List.not_mem_nil, or_false] at hy
          rcases hy with rfl
          · exact ⟨by decide, "java/lang/IllegalArgumentException", by decide +kernel, by decide +kernel, w9_232⟩), by decide, by decide, w9_233, rfl⟩, fun q9 => ?_⟩
      rw [if_neg (by decide +kernel), if_pos rfl]
      refine j_astore_n (pc := 15) C dL_append_15 (Nat.le_of_ble_eq_true rfl) (ls' := [(3, .ref q9), (0, .ref a0), (1, .int a1), (2, .ref a2)]) rfl ?_
      refine j_iconst (pc := 16) C dL_append_16 (v := 2) rfl ?_
      exact j_ireturn (pc := 17) C rfl dL_append_17 ⟨Nat.le_refl _, Nat.le_refl _⟩
    · exact Or.inl (by rw [if_neg (by decide +kernel), if_neg (by decide +kernel)])
theorem sp_L_append {l : Launch} {z : Sh9} {N : Nv9} {a0 : Nat} {a1 : Int32} {a2 : Nat} {M : Mem9} {o : Out9 × Mem9} (hl : l.stackTraces = false) (h : f_L_append z a0 a1 a2 M = some o) : Sp9 l z N yL_append (Cond.codeWith yL_append cL_append 4 (some .int) [(0, 9, 12, 13), (0, 9, 15, 15)]) 7 [.ref a0, .int a1, .ref a2] M (1, 6) o :=
  sp9_ofH (rk := 1) (own := RL) (by decide +kernel) rfl (Or.inr (Or.inl ⟨rfl, rfl⟩)) hl (Nat.le_of_ble_eq_true rfl) (by decide) (fun X C => t_L_append C a0 a1 a2 M) h
def f_L_arrive (z : Sh9) (a0 : Nat) (a1 : Int32) (a2 : Int32) (a3 : Int32) (a4 : Int32) (a5 : Nat) (M : Mem9) : Re9 :=
  (bh9 (iv9 z a0 2 (f_X2_arrive z a0 a1 a2 a3 a4 M)) (fun v2 M1 => ((sl9 z M1 a5 (0 : Int32) v2).bind fun M3 => (ri9 (0 : Int32) M3))) (fun E9 M9 => (if E9 = "java/lang/IndexOutOfBoundsException" then (ri9 (1 : Int32) M9) else (if E9 = "java/lang/IllegalArgumentException" then (ri9 (2 : Int32) M9) else (if E9 = "java/lang/IllegalStateException" then (ri9 (3 : Int32) M9) else none)))))
set_option maxRecDepth 20000 in
set_option maxHeartbeats 4000000 in
theorem t_L_arrive {z : Sh9} {N : Nv9} {X : Cx9} {out : Out9 × Mem9} (C : OK9 z N X out 7 (1, 6) cL_arrive RL 8 1 [(0, 14, 17, 28), (0, 14, 21, 13), (0, 14, 25, 15)]) (a0 : Nat) (a1 : Int32) (a2 : Int32) (a3 : Int32) (a4 : Int32) (a5 : Nat) (M : Mem9) : J9 z N X out 7 0 [(0, .ref a0), (1, .int a1), (2, .int a2), (3, .int a3), (4, .int a4), (5, .ref a5)] [] M (0, 0) (f_L_arrive z a0 a1 a2 a3 a4 a5 M) := by
  refine j_aload (pc := 0) C dL_arrive_0 rfl ?_
  refine j_iconst (pc := 2) C dL_arrive_2 (v := 0) rfl ?_
  refine j_aload_n (pc := 3) C dL_arrive_3 rfl ?_
  refine j_iload_n (pc := 4) C dL_arrive_4 rfl ?_
  refine j_iload_n (pc := 5) C dL_arrive_5 rfl ?_
  refine j_iload_n (pc := 6) C dL_arrive_6 rfl ?_
  refine j_iload (pc := 7) C dL_arrive_7 rfl ?_
  refine j_callVh (pc := 9) C dL_arrive_9 lv_L_43 rfl (Nat.le_of_ble_eq_true rfl) (Nat.le_of_ble_eq_true rfl) (by decide) rfl ⟨Nat.le_refl _, Nat.le_refl _⟩ (fun l hl o ho => sp_X2_arrive hl ho) (fun v2 M1 => ?_) ?_
  · refine j_i2l (pc := 12) C dL_arrive_12 ?_
    refine j_lastore (pc := 13) C dL_arrive_13 (v := v2) (fun M3 => ?_)
    refine j_goto (pc := 14) C dL_arrive_14 (tgt := 29) (by decide) ?_
    refine j_iconst (pc := 29) C dL_arrive_29 (v := 0) rfl ?_
    exact j_ireturn (pc := 30) C rfl dL_arrive_30 ⟨Nat.zero_le _, Nat.zero_le _⟩
  · intro E9 hE9 M9
    simp only [excs9, List.mem_cons, List.not_mem_nil, or_false] at hE9
    rcases hE9 with rfl | rfl | rfl
    · refine Or.inr ⟨21, ⟨[⟨0, 14, 17, 28⟩], ⟨0, 14, 21, 13⟩, [⟨0, 14, 25, 15⟩], rfl, (by
          intro y hy
          simp only [List.mem_cons, List.not_mem_nil, or_false] at hy
          rcases hy with rfl
          · exact ⟨by decide, "java/lang/IndexOutOfBoundsException", by decide +kernel, by decide +kernel, w9_470⟩), by decide, by decide, w9_232, rfl⟩, fun q9 => ?_⟩
      rw [if_neg (by decide +kernel), if_pos rfl]
      refine j_astore (pc := 21) C dL_arrive_21 (Nat.le_of_ble_eq_true rfl) (ls' := [(6, .ref q9), (0, .ref a0), (1, .int a1), (2, .int a2), (3, .int a3), (4, .int a4), (5, .ref a5)]) rfl ?_
      refine j_iconst (pc := 23) C dL_arrive_23 (v := 2) rfl ?_
      exact j_ireturn (pc := 24) C rfl dL_arrive_24 ⟨Nat.le_refl _, Nat.le_refl _⟩
    · refine Or.inr ⟨25, ⟨[⟨0, 14, 17, 28⟩, ⟨0, 14, 21, 13⟩], ⟨0, 14, 25, 15⟩, [], rfl, (by
          intro y hy
          simp only [List.mem_cons, List.not_mem_nil, or_false] at hy
          rcases hy with rfl | rfl
          · exact ⟨by decide, "java/lang/IndexOutOfBoundsException", by decide +kernel, by decide +kernel, w9_470⟩
          · exact ⟨by decide, "java/lang/IllegalArgumentException", by decide +kernel, by decide +kernel, w9_232⟩), by decide, by decide, w9_233, rfl⟩, fun q9 => ?_⟩
      rw [if_neg (by decide +kernel), if_neg (by decide +kernel), if_pos rfl]
      refine j_astore (pc := 25) C dL_arrive_25 (Nat.le_of_ble_eq_true rfl) (ls' := [(6, .ref q9), (0, .ref a0), (1, .int a1), (2, .int a2), (3, .int a3), (4, .int a4), (5, .ref a5)]) rfl ?_
      refine j_iconst (pc := 27) C dL_arrive_27 (v := 3) rfl ?_
      exact j_ireturn (pc := 28) C rfl dL_arrive_28 ⟨Nat.le_refl _, Nat.le_refl _⟩
    · refine Or.inr ⟨17, ⟨[], ⟨0, 14, 17, 28⟩, [⟨0, 14, 21, 13⟩, ⟨0, 14, 25, 15⟩], rfl, (fun y hy => by cases hy), by decide, by decide, w9_470, rfl⟩, fun q9 => ?_⟩
      rw [if_pos rfl]
      refine j_astore (pc := 17) C dL_arrive_17 (Nat.le_of_ble_eq_true rfl) (ls' := [(6, .ref q9), (0, .ref a0), (1, .int a1), (2, .int a2), (3, .int a3), (4, .int a4), (5, .ref a5)]) rfl ?_
      refine j_iconst (pc := 19) C dL_arrive_19 (v := 1) rfl ?_
      exact j_ireturn (pc := 20) C rfl dL_arrive_20 ⟨Nat.le_refl _, Nat.le_refl _⟩
theorem sp_L_arrive {l : Launch} {z : Sh9} {N : Nv9} {a0 : Nat} {a1 : Int32} {a2 : Int32} {a3 : Int32} {a4 : Int32} {a5 : Nat} {M : Mem9} {o : Out9 × Mem9} (hl : l.stackTraces = false) (h : f_L_arrive z a0 a1 a2 a3 a4 a5 M = some o) : Sp9 l z N yL_arrive (Cond.codeWith yL_arrive cL_arrive 7 (some .int) [(0, 14, 17, 28), (0, 14, 21, 13), (0, 14, 25, 15)]) 8 [.ref a0, .int a1, .int a2, .int a3, .int a4, .ref a5] M (1, 6) o :=
  sp9_ofH (rk := 1) (own := RL) (by decide +kernel) rfl (Or.inr (Or.inl ⟨rfl, rfl⟩)) hl (Nat.le_of_ble_eq_true rfl) (by decide) (fun X C => t_L_arrive C a0 a1 a2 a3 a4 a5 M) h
def f_L_bestLane (z : Sh9) (a0 : Nat) (a1 : Int32) (a2 : Nat) (M : Mem9) : Re9 :=
  (bh9 (iv9 z a0 2 (f_X2_bestLane z a0 a1 M)) (fun v2 M1 => ((sl9 z M1 a2 (0 : Int32) v2).bind fun M3 => (ri9 (0 : Int32) M3))) (fun E9 M9 => (if E9 = "java/lang/IllegalArgumentException" then (ri9 (1 : Int32) M9) else none)))
set_option maxRecDepth 20000 in
set_option maxHeartbeats 4000000 in
theorem t_L_bestLane {z : Sh9} {N : Nv9} {X : Cx9} {out : Out9 × Mem9} (C : OK9 z N X out 4 (1, 6) cL_bestLane RL 8 1 [(0, 9, 12, 13)]) (a0 : Nat) (a1 : Int32) (a2 : Nat) (M : Mem9) : J9 z N X out 4 0 [(0, .ref a0), (1, .int a1), (2, .ref a2)] [] M (0, 0) (f_L_bestLane z a0 a1 a2 M) := by
  refine j_aload_n (pc := 0) C dL_bestLane_0 rfl ?_
  refine j_iconst (pc := 1) C dL_bestLane_1 (v := 0) rfl ?_
  refine j_aload_n (pc := 2) C dL_bestLane_2 rfl ?_
  refine j_iload_n (pc := 3) C dL_bestLane_3 rfl ?_
  refine j_callVh (pc := 4) C dL_bestLane_4 lv_L_69 rfl (Nat.le_of_ble_eq_true rfl) (Nat.le_of_ble_eq_true rfl) (by decide) rfl ⟨Nat.le_refl _, Nat.le_refl _⟩ (fun l hl o ho => sp_X2_bestLane hl ho) (fun v2 M1 => ?_) ?_
  · refine j_i2l (pc := 7) C dL_bestLane_7 ?_
    refine j_lastore (pc := 8) C dL_bestLane_8 (v := v2) (fun M3 => ?_)
    refine j_goto (pc := 9) C dL_bestLane_9 (tgt := 15) (by decide) ?_
    refine j_iconst (pc := 15) C dL_bestLane_15 (v := 0) rfl ?_
    exact j_ireturn (pc := 16) C rfl dL_bestLane_16 ⟨Nat.zero_le _, Nat.zero_le _⟩
  · intro E9 hE9 M9
    simp only [excs9, List.mem_cons, List.not_mem_nil, or_false] at hE9
    rcases hE9 with rfl | rfl | rfl
    · refine Or.inr ⟨12, ⟨[], ⟨0, 9, 12, 13⟩, [], rfl, (fun y hy => by cases hy), by decide, by decide, w9_232, rfl⟩, fun q9 => ?_⟩
      rw [if_pos rfl]
      refine j_astore_n (pc := 12) C dL_bestLane_12 (Nat.le_of_ble_eq_true rfl) (ls' := [(3, .ref q9), (0, .ref a0), (1, .int a1), (2, .ref a2)]) rfl ?_
      refine j_iconst (pc := 13) C dL_bestLane_13 (v := 1) rfl ?_
      exact j_ireturn (pc := 14) C rfl dL_bestLane_14 ⟨Nat.le_refl _, Nat.le_refl _⟩
    · exact Or.inl (by rw [if_neg (by decide +kernel)])
    · exact Or.inl (by rw [if_neg (by decide +kernel)])
theorem sp_L_bestLane {l : Launch} {z : Sh9} {N : Nv9} {a0 : Nat} {a1 : Int32} {a2 : Nat} {M : Mem9} {o : Out9 × Mem9} (hl : l.stackTraces = false) (h : f_L_bestLane z a0 a1 a2 M = some o) : Sp9 l z N yL_bestLane (Cond.codeWith yL_bestLane cL_bestLane 4 (some .int) [(0, 9, 12, 13)]) 8 [.ref a0, .int a1, .ref a2] M (1, 6) o :=
  sp9_ofH (rk := 1) (own := RL) (by decide +kernel) rfl (Or.inr (Or.inl ⟨rfl, rfl⟩)) hl (Nat.le_of_ble_eq_true rfl) (by decide) (fun X C => t_L_bestLane C a0 a1 a2 M) h
def f_L_coming (z : Sh9) (a0 : Nat) (a1 : Int32) (a2 : Int32) (a3 : Nat) (M : Mem9) : Re9 :=
  (bh9 (iv9 z a0 2 (f_X2_coming z a0 a1 a2 M)) (fun v2 M1 => ((sl9 z M1 a3 (0 : Int32) v2).bind fun M3 => (ri9 (0 : Int32) M3))) (fun E9 M9 => (if E9 = "java/lang/IllegalArgumentException" then (ri9 (1 : Int32) M9) else none)))
set_option maxRecDepth 20000 in
set_option maxHeartbeats 4000000 in
theorem t_L_coming {z : Sh9} {N : Nv9} {X : Cx9} {out : Out9 × Mem9} (C : OK9 z N X out 5 (1, 6) cL_coming RL 7 1 [(0, 10, 13, 13)]) (a0 : Nat) (a1 : Int32) (a2 : Int32) (a3 : Nat) (M : Mem9) : J9 z N X out 5 0 [(0, .ref a0), (1, .int a1), (2, .int a2), (3, .ref a3)] [] M (0, 0) (f_L_coming z a0 a1 a2 a3 M) := by
  refine j_aload_n (pc := 0) C dL_coming_0 rfl ?_
  refine j_iconst (pc := 1) C dL_coming_1 (v := 0) rfl ?_
  refine j_aload_n (pc := 2) C dL_coming_2 rfl ?_
  refine j_iload_n (pc := 3) C dL_coming_3 rfl ?_
  refine j_iload_n (pc := 4) C dL_coming_4 rfl ?_
  refine j_callVh (pc := 5) C dL_coming_5 lv_L_72 rfl (Nat.le_of_ble_eq_true rfl) (Nat.le_of_ble_eq_true rfl) (by decide) rfl ⟨Nat.le_refl _, Nat.le_refl _⟩ (fun l hl o ho => sp_X2_coming hl ho) (fun v2 M1 => ?_) ?_
  · refine j_i2l (pc := 8) C dL_coming_8 ?_
    refine j_lastore (pc := 9) C dL_coming_9 (v := v2) (fun M3 => ?_)
    refine j_goto (pc := 10) C dL_coming_10 (tgt := 17) (by decide) ?_
    refine j_iconst (pc := 17) C dL_coming_17 (v := 0) rfl ?_
    exact j_ireturn (pc := 18) C rfl dL_coming_18 ⟨Nat.zero_le _, Nat.zero_le _⟩
  · intro E9 hE9 M9
    simp only [excs9, List.mem_cons, List.not_mem_nil, or_false] at hE9
    rcases hE9 with rfl | rfl | rfl
    · refine Or.inr ⟨13, ⟨[], ⟨0, 10, 13, 13⟩, [], rfl, (fun y hy => by cases hy), by decide, by decide, w9_232, rfl⟩, fun q9 => ?_⟩
      rw [if_pos rfl]
      refine j_astore (pc := 13) C dL_coming_13 (Nat.le_of_ble_eq_true rfl) (ls' := [(4, .ref q9), (0, .ref a0), (1, .int a1), (2, .int a2), (3, .ref a3)]) rfl ?_
      refine j_iconst (pc := 15) C dL_coming_15 (v := 1) rfl ?_
      exact j_ireturn (pc := 16) C rfl dL_coming_16 ⟨Nat.le_refl _, Nat.le_refl _⟩
    · exact Or.inl (by rw [if_neg (by decide +kernel)])
    · exact Or.inl (by rw [if_neg (by decide +kernel)])
theorem sp_L_coming {l : Launch} {z : Sh9} {N : Nv9} {a0 : Nat} {a1 : Int32} {a2 : Int32} {a3 : Nat} {M : Mem9} {o : Out9 × Mem9} (hl : l.stackTraces = false) (h : f_L_coming z a0 a1 a2 a3 M = some o) : Sp9 l z N yL_coming (Cond.codeWith yL_coming cL_coming 5 (some .int) [(0, 10, 13, 13)]) 7 [.ref a0, .int a1, .int a2, .ref a3] M (1, 6) o :=
  sp9_ofH (rk := 1) (own := RL) (by decide +kernel) rfl (Or.inr (Or.inl ⟨rfl, rfl⟩)) hl (Nat.le_of_ble_eq_true rfl) (by decide) (fun X C => t_L_coming C a0 a1 a2 a3 M) h
def f_L_emptyIn (z : Sh9) (a0 : Nat) (a1 : Int32) (a2 : Nat) (M : Mem9) : Re9 :=
  (bh9 (iv9 z a0 2 (f_X2_emptyIn z a0 a1 M)) (fun v2 M1 => ((sl9 z M1 a2 (0 : Int32) v2).bind fun M3 => (ri9 (0 : Int32) M3))) (fun E9 M9 => (if E9 = "java/lang/IndexOutOfBoundsException" then (ri9 (1 : Int32) M9) else none)))
set_option maxRecDepth 20000 in
set_option maxHeartbeats 4000000 in
theorem t_L_emptyIn {z : Sh9} {N : Nv9} {X : Cx9} {out : Out9 × Mem9} (C : OK9 z N X out 4 (1, 6) cL_emptyIn RL 8 1 [(0, 9, 12, 28)]) (a0 : Nat) (a1 : Int32) (a2 : Nat) (M : Mem9) : J9 z N X out 4 0 [(0, .ref a0), (1, .int a1), (2, .ref a2)] [] M (0, 0) (f_L_emptyIn z a0 a1 a2 M) := by
  refine j_aload_n (pc := 0) C dL_emptyIn_0 rfl ?_
  refine j_iconst (pc := 1) C dL_emptyIn_1 (v := 0) rfl ?_
  refine j_aload_n (pc := 2) C dL_emptyIn_2 rfl ?_
  refine j_iload_n (pc := 3) C dL_emptyIn_3 rfl ?_
  refine j_callVh (pc := 4) C dL_emptyIn_4 lv_L_63 rfl (Nat.le_of_ble_eq_true rfl) (Nat.le_of_ble_eq_true rfl) (by decide) rfl ⟨Nat.le_refl _, Nat.le_refl _⟩ (fun l hl o ho => sp_X2_emptyIn hl ho) (fun v2 M1 => ?_) ?_
  · refine j_i2l (pc := 7) C dL_emptyIn_7 ?_
    refine j_lastore (pc := 8) C dL_emptyIn_8 (v := v2) (fun M3 => ?_)
    refine j_goto (pc := 9) C dL_emptyIn_9 (tgt := 15) (by decide) ?_
    refine j_iconst (pc := 15) C dL_emptyIn_15 (v := 0) rfl ?_
    exact j_ireturn (pc := 16) C rfl dL_emptyIn_16 ⟨Nat.zero_le _, Nat.zero_le _⟩
  · intro E9 hE9 M9
    simp only [excs9, List.mem_cons, List.not_mem_nil, or_false] at hE9
    rcases hE9 with rfl | rfl | rfl
    · exact Or.inl (by rw [if_neg (by decide +kernel)])
    · exact Or.inl (by rw [if_neg (by decide +kernel)])
    · refine Or.inr ⟨12, ⟨[], ⟨0, 9, 12, 28⟩, [], rfl, (fun y hy => by cases hy), by decide, by decide, w9_470, rfl⟩, fun q9 => ?_⟩
      rw [if_pos rfl]
      refine j_astore_n (pc := 12) C dL_emptyIn_12 (Nat.le_of_ble_eq_true rfl) (ls' := [(3, .ref q9), (0, .ref a0), (1, .int a1), (2, .ref a2)]) rfl ?_
      refine j_iconst (pc := 13) C dL_emptyIn_13 (v := 1) rfl ?_
      exact j_ireturn (pc := 14) C rfl dL_emptyIn_14 ⟨Nat.le_refl _, Nat.le_refl _⟩
theorem sp_L_emptyIn {l : Launch} {z : Sh9} {N : Nv9} {a0 : Nat} {a1 : Int32} {a2 : Nat} {M : Mem9} {o : Out9 × Mem9} (hl : l.stackTraces = false) (h : f_L_emptyIn z a0 a1 a2 M = some o) : Sp9 l z N yL_emptyIn (Cond.codeWith yL_emptyIn cL_emptyIn 4 (some .int) [(0, 9, 12, 28)]) 8 [.ref a0, .int a1, .ref a2] M (1, 6) o :=
  sp9_ofH (rk := 1) (own := RL) (by decide +kernel) rfl (Or.inr (Or.inl ⟨rfl, rfl⟩)) hl (Nat.le_of_ble_eq_true rfl) (by decide) (fun X C => t_L_emptyIn C a0 a1 a2 M) h
def f_L_hitsIn (z : Sh9) (a0 : Nat) (a1 : Int32) (a2 : Nat) (M : Mem9) : Re9 :=
  (bh9 (iv9 z a0 2 (f_X2_hitsIn z a0 a1 M)) (fun v2 M1 => ((sl9 z M1 a2 (0 : Int32) v2).bind fun M3 => (ri9 (0 : Int32) M3))) (fun E9 M9 => (if E9 = "java/lang/IndexOutOfBoundsException" then (ri9 (1 : Int32) M9) else none)))
set_option maxRecDepth 20000 in
set_option maxHeartbeats 4000000 in
theorem t_L_hitsIn {z : Sh9} {N : Nv9} {X : Cx9} {out : Out9 × Mem9} (C : OK9 z N X out 4 (1, 6) cL_hitsIn RL 8 1 [(0, 9, 12, 28)]) (a0 : Nat) (a1 : Int32) (a2 : Nat) (M : Mem9) : J9 z N X out 4 0 [(0, .ref a0), (1, .int a1), (2, .ref a2)] [] M (0, 0) (f_L_hitsIn z a0 a1 a2 M) := by
  refine j_aload_n (pc := 0) C dL_hitsIn_0 rfl ?_
  refine j_iconst (pc := 1) C dL_hitsIn_1 (v := 0) rfl ?_
  refine j_aload_n (pc := 2) C dL_hitsIn_2 rfl ?_
  refine j_iload_n (pc := 3) C dL_hitsIn_3 rfl ?_
  refine j_callVh (pc := 4) C dL_hitsIn_4 lv_L_75 rfl (Nat.le_of_ble_eq_true rfl) (Nat.le_of_ble_eq_true rfl) (by decide) rfl ⟨Nat.le_refl _, Nat.le_refl _⟩ (fun l hl o ho => sp_X2_hitsIn hl ho) (fun v2 M1 => ?_) ?_
  · refine j_i2l (pc := 7) C dL_hitsIn_7 ?_
    refine j_lastore (pc := 8) C dL_hitsIn_8 (v := v2) (fun M3 => ?_)
    refine j_goto (pc := 9) C dL_hitsIn_9 (tgt := 15) (by decide) ?_
    refine j_iconst (pc := 15) C dL_hitsIn_15 (v := 0) rfl ?_
    exact j_ireturn (pc := 16) C rfl dL_hitsIn_16 ⟨Nat.zero_le _, Nat.zero_le _⟩
  · intro E9 hE9 M9
    simp only [excs9, List.mem_cons, List.not_mem_nil, or_false] at hE9
    rcases hE9 with rfl | rfl | rfl
    · exact Or.inl (by rw [if_neg (by decide +kernel)])
    · exact Or.inl (by rw [if_neg (by decide +kernel)])
    · refine Or.inr ⟨12, ⟨[], ⟨0, 9, 12, 28⟩, [], rfl, (fun y hy => by cases hy), by decide, by decide, w9_470, rfl⟩, fun q9 => ?_⟩
      rw [if_pos rfl]
      refine j_astore_n (pc := 12) C dL_hitsIn_12 (Nat.le_of_ble_eq_true rfl) (ls' := [(3, .ref q9), (0, .ref a0), (1, .int a1), (2, .ref a2)]) rfl ?_
      refine j_iconst (pc := 13) C dL_hitsIn_13 (v := 1) rfl ?_
      exact j_ireturn (pc := 14) C rfl dL_hitsIn_14 ⟨Nat.le_refl _, Nat.le_refl _⟩
theorem sp_L_hitsIn {l : Launch} {z : Sh9} {N : Nv9} {a0 : Nat} {a1 : Int32} {a2 : Nat} {M : Mem9} {o : Out9 × Mem9} (hl : l.stackTraces = false) (h : f_L_hitsIn z a0 a1 a2 M = some o) : Sp9 l z N yL_hitsIn (Cond.codeWith yL_hitsIn cL_hitsIn 4 (some .int) [(0, 9, 12, 28)]) 8 [.ref a0, .int a1, .ref a2] M (1, 6) o :=
  sp9_ofH (rk := 1) (own := RL) (by decide +kernel) rfl (Or.inr (Or.inl ⟨rfl, rfl⟩)) hl (Nat.le_of_ble_eq_true rfl) (by decide) (fun X C => t_L_hitsIn C a0 a1 a2 M) h
def f_L_lane (z : Sh9) (a0 : Nat) (a1 : Nat) (M : Mem9) : Re9 :=
  (bh9 (iv9 z a0 2 (f_X2_lane z a0  M)) (fun v2 M1 => ((sl9 z M1 a1 (0 : Int32) v2).bind fun M3 => (ri9 (0 : Int32) M3))) (fun E9 M9 => (if E9 = "java/lang/IllegalStateException" then (ri9 (1 : Int32) M9) else none)))
set_option maxRecDepth 20000 in
set_option maxHeartbeats 4000000 in
theorem t_L_lane {z : Sh9} {N : Nv9} {X : Cx9} {out : Out9 × Mem9} (C : OK9 z N X out 3 (1, 6) cL_lane RL 7 1 [(0, 8, 11, 15)]) (a0 : Nat) (a1 : Nat) (M : Mem9) : J9 z N X out 3 0 [(0, .ref a0), (1, .ref a1)] [] M (0, 0) (f_L_lane z a0 a1 M) := by
  refine j_aload_n (pc := 0) C dL_lane_0 rfl ?_
  refine j_iconst (pc := 1) C dL_lane_1 (v := 0) rfl ?_
  refine j_aload_n (pc := 2) C dL_lane_2 rfl ?_
  refine j_callVh (pc := 3) C dL_lane_3 lv_L_40 rfl (Nat.le_of_ble_eq_true rfl) (Nat.le_of_ble_eq_true rfl) (by decide) rfl ⟨Nat.le_refl _, Nat.le_refl _⟩ (fun l hl o ho => sp_X2_lane hl ho) (fun v2 M1 => ?_) ?_
  · refine j_i2l (pc := 6) C dL_lane_6 ?_
    refine j_lastore (pc := 7) C dL_lane_7 (v := v2) (fun M3 => ?_)
    refine j_goto (pc := 8) C dL_lane_8 (tgt := 14) (by decide) ?_
    refine j_iconst (pc := 14) C dL_lane_14 (v := 0) rfl ?_
    exact j_ireturn (pc := 15) C rfl dL_lane_15 ⟨Nat.zero_le _, Nat.zero_le _⟩
  · intro E9 hE9 M9
    simp only [excs9, List.mem_cons, List.not_mem_nil, or_false] at hE9
    rcases hE9 with rfl | rfl | rfl
    · exact Or.inl (by rw [if_neg (by decide +kernel)])
    · refine Or.inr ⟨11, ⟨[], ⟨0, 8, 11, 15⟩, [], rfl, (fun y hy => by cases hy), by decide, by decide, w9_233, rfl⟩, fun q9 => ?_⟩
      rw [if_pos rfl]
      refine j_astore_n (pc := 11) C dL_lane_11 (Nat.le_of_ble_eq_true rfl) (ls' := [(2, .ref q9), (0, .ref a0), (1, .ref a1)]) rfl ?_
      refine j_iconst (pc := 12) C dL_lane_12 (v := 1) rfl ?_
      exact j_ireturn (pc := 13) C rfl dL_lane_13 ⟨Nat.le_refl _, Nat.le_refl _⟩
    · exact Or.inl (by rw [if_neg (by decide +kernel)])
theorem sp_L_lane {l : Launch} {z : Sh9} {N : Nv9} {a0 : Nat} {a1 : Nat} {M : Mem9} {o : Out9 × Mem9} (hl : l.stackTraces = false) (h : f_L_lane z a0 a1 M = some o) : Sp9 l z N yL_lane (Cond.codeWith yL_lane cL_lane 3 (some .int) [(0, 8, 11, 15)]) 7 [.ref a0, .ref a1] M (1, 6) o :=
  sp9_ofH (rk := 1) (own := RL) (by decide +kernel) rfl (Or.inr (Or.inl ⟨rfl, rfl⟩)) hl (Nat.le_of_ble_eq_true rfl) (by decide) (fun X C => t_L_lane C a0 a1 M) h
def f_L_laneOf (z : Sh9) (a0 : Nat) (a1 : Int32) (a2 : Int32) (a3 : Nat) (M : Mem9) : Re9 :=
  (bh9 (iv9 z a0 2 (f_X2_laneOf z a0 a1 a2 M)) (fun v2 M1 => ((sl9 z M1 a3 (0 : Int32) v2).bind fun M3 => (ri9 (0 : Int32) M3))) (fun E9 M9 => (if E9 = "java/lang/IndexOutOfBoundsException" then (ri9 (1 : Int32) M9) else (if E9 = "java/lang/IllegalArgumentException" then (ri9 (2 : Int32) M9) else none))))
set_option maxRecDepth 20000 in
set_option maxHeartbeats 4000000 in
theorem t_L_laneOf {z : Sh9} {N : Nv9} {X : Cx9} {out : Out9 × Mem9} (C : OK9 z N X out 5 (1, 6) cL_laneOf RL 8 1 [(0, 10, 13, 28), (0, 10, 17, 13)]) (a0 : Nat) (a1 : Int32) (a2 : Int32) (a3 : Nat) (M : Mem9) : J9 z N X out 5 0 [(0, .ref a0), (1, .int a1), (2, .int a2), (3, .ref a3)] [] M (0, 0) (f_L_laneOf z a0 a1 a2 a3 M) := by
  refine j_aload_n (pc := 0) C dL_laneOf_0 rfl ?_
  refine j_iconst (pc := 1) C dL_laneOf_1 (v := 0) rfl ?_
  refine j_aload_n (pc := 2) C dL_laneOf_2 rfl ?_
  refine j_iload_n (pc := 3) C dL_laneOf_3 rfl ?_
  refine j_iload_n (pc := 4) C dL_laneOf_4 rfl ?_
  refine j_callVh (pc := 5) C dL_laneOf_5 lv_L_24 rfl (Nat.le_of_ble_eq_true rfl) (Nat.le_of_ble_eq_true rfl) (by decide) rfl ⟨Nat.le_refl _, Nat.le_refl _⟩ (fun l hl o ho => sp_X2_laneOf hl ho) (fun v2 M1 => ?_) ?_
  · refine j_i2l (pc := 8) C dL_laneOf_8 ?_
    refine j_lastore (pc := 9) C dL_laneOf_9 (v := v2) (fun M3 => ?_)
    refine j_goto (pc := 10) C dL_laneOf_10 (tgt := 21) (by decide) ?_
    refine j_iconst (pc := 21) C dL_laneOf_21 (v := 0) rfl ?_
    exact j_ireturn (pc := 22) C rfl dL_laneOf_22 ⟨Nat.zero_le _, Nat.zero_le _⟩
  · intro E9 hE9 M9
    simp only [excs9, List.mem_cons, List.not_mem_nil, or_false] at hE9
    rcases hE9 with rfl | rfl | rfl
    · refine Or.inr ⟨17, ⟨[⟨0, 10, 13, 28⟩], ⟨0, 10, 17, 13⟩, [], rfl, (by
          intro y hy
          simp only [List.mem_cons, List.not_mem_nil, or_false] at hy
          rcases hy with rfl
          · exact ⟨by decide, "java/lang/IndexOutOfBoundsException", by decide +kernel, by decide +kernel, w9_470⟩), by decide, by decide, w9_232, rfl⟩, fun q9 => ?_⟩
      rw [if_neg (by decide +kernel), if_pos rfl]
      refine j_astore (pc := 17) C dL_laneOf_17 (Nat.le_of_ble_eq_true rfl) (ls' := [(4, .ref q9), (0, .ref a0), (1, .int a1), (2, .int a2), (3, .ref a3)]) rfl ?_
      refine j_iconst (pc := 19) C dL_laneOf_19 (v := 2) rfl ?_
      exact j_ireturn (pc := 20) C rfl dL_laneOf_20 ⟨Nat.le_refl _, Nat.le_refl _⟩
    · exact Or.inl (by rw [if_neg (by decide +kernel), if_neg (by decide +kernel)])
    · refine Or.inr ⟨13, ⟨[], ⟨0, 10, 13, 28⟩, [⟨0, 10, 17, 13⟩], rfl, (fun y hy => by cases hy), by decide, by decide, w9_470, rfl⟩, fun q9 => ?_⟩
      rw [if_pos rfl]
      refine j_astore (pc := 13) C dL_laneOf_13 (Nat.le_of_ble_eq_true rfl) (ls' := [(4, .ref q9), (0, .ref a0), (1, .int a1), (2, .int a2), (3, .ref a3)]) rfl ?_
      refine j_iconst (pc := 15) C dL_laneOf_15 (v := 1) rfl ?_
      exact j_ireturn (pc := 16) C rfl dL_laneOf_16 ⟨Nat.le_refl _, Nat.le_refl _⟩
theorem sp_L_laneOf {l : Launch} {z : Sh9} {N : Nv9} {a0 : Nat} {a1 : Int32} {a2 : Int32} {a3 : Nat} {M : Mem9} {o : Out9 × Mem9} (hl : l.stackTraces = false) (h : f_L_laneOf z a0 a1 a2 a3 M = some o) : Sp9 l z N yL_laneOf (Cond.codeWith yL_laneOf cL_laneOf 5 (some .int) [(0, 10, 13, 28), (0, 10, 17, 13)]) 8 [.ref a0, .int a1, .int a2, .ref a3] M (1, 6) o :=
  sp9_ofH (rk := 1) (own := RL) (by decide +kernel) rfl (Or.inr (Or.inl ⟨rfl, rfl⟩)) hl (Nat.le_of_ble_eq_true rfl) (by decide) (fun X C => t_L_laneOf C a0 a1 a2 a3 M) h
def f_L_load (z : Sh9) (a0 : Nat) (a1 : Nat) (M : Mem9) : Re9 :=
  (bh9 (iv9 z a0 2 (f_X2_load z a0  M)) (fun v2 M1 => ((sl9 z M1 a1 (0 : Int32) v2).bind fun M3 => (ri9 (0 : Int32) M3))) (fun E9 M9 => (if E9 = "java/lang/IllegalStateException" then (ri9 (1 : Int32) M9) else none)))
set_option maxRecDepth 20000 in
set_option maxHeartbeats 4000000 in
theorem t_L_load {z : Sh9} {N : Nv9} {X : Cx9} {out : Out9 × Mem9} (C : OK9 z N X out 3 (1, 6) cL_load RL 7 1 [(0, 8, 11, 15)]) (a0 : Nat) (a1 : Nat) (M : Mem9) : J9 z N X out 3 0 [(0, .ref a0), (1, .ref a1)] [] M (0, 0) (f_L_load z a0 a1 M) := by
  refine j_aload_n (pc := 0) C dL_load_0 rfl ?_
  refine j_iconst (pc := 1) C dL_load_1 (v := 0) rfl ?_
  refine j_aload_n (pc := 2) C dL_load_2 rfl ?_
  refine j_callVh (pc := 3) C dL_load_3 lv_L_17 rfl (Nat.le_of_ble_eq_true rfl) (Nat.le_of_ble_eq_true rfl) (by decide) rfl ⟨Nat.le_refl _, Nat.le_refl _⟩ (fun l hl o ho => sp_X2_load hl ho) (fun v2 M1 => ?_) ?_
  · refine j_i2l (pc := 6) C dL_load_6 ?_
    refine j_lastore (pc := 7) C dL_load_7 (v := v2) (fun M3 => ?_)
    refine j_goto (pc := 8) C dL_load_8 (tgt := 14) (by decide) ?_
    refine j_iconst (pc := 14) C dL_load_14 (v := 0) rfl ?_
    exact j_ireturn (pc := 15) C rfl dL_load_15 ⟨Nat.zero_le _, Nat.zero_le _⟩
  · intro E9 hE9 M9
    simp only [excs9, List.mem_cons, List.not_mem_nil, or_false] at hE9
    rcases hE9 with rfl | rfl | rfl
    · exact Or.inl (by rw [if_neg (by decide +kernel)])
    · refine Or.inr ⟨11, ⟨[], ⟨0, 8, 11, 15⟩, [], rfl, (fun y hy => by cases hy), by decide, by decide, w9_233, rfl⟩, fun q9 => ?_⟩
      rw [if_pos rfl]
      refine j_astore_n (pc := 11) C dL_load_11 (Nat.le_of_ble_eq_true rfl) (ls' := [(2, .ref q9), (0, .ref a0), (1, .ref a1)]) rfl ?_
      refine j_iconst (pc := 12) C dL_load_12 (v := 1) rfl ?_
      exact j_ireturn (pc := 13) C rfl dL_load_13 ⟨Nat.le_refl _, Nat.le_refl _⟩
    · exact Or.inl (by rw [if_neg (by decide +kernel)])
theorem sp_L_load {l : Launch} {z : Sh9} {N : Nv9} {a0 : Nat} {a1 : Nat} {M : Mem9} {o : Out9 × Mem9} (hl : l.stackTraces = false) (h : f_L_load z a0 a1 M = some o) : Sp9 l z N yL_load (Cond.codeWith yL_load cL_load 3 (some .int) [(0, 8, 11, 15)]) 7 [.ref a0, .ref a1] M (1, 6) o :=
  sp9_ofH (rk := 1) (own := RL) (by decide +kernel) rfl (Or.inr (Or.inl ⟨rfl, rfl⟩)) hl (Nat.le_of_ble_eq_true rfl) (by decide) (fun X C => t_L_load C a0 a1 M) h
def f_L_loop (z : Sh9) (a0 : Nat) (a1 : Int32) (a2 : Int32) (a3 : Nat) (M : Mem9) : Re9 :=
  (bh9 (iv9 z a0 2 (f_X2_loop z a0 a1 a2 M)) (fun v2 M1 => ((sl9 z M1 a3 (0 : Int32) v2).bind fun M3 => (ri9 (0 : Int32) M3))) (fun E9 M9 => (if E9 = "java/lang/IndexOutOfBoundsException" then (ri9 (1 : Int32) M9) else none)))
set_option maxRecDepth 20000 in
set_option maxHeartbeats 4000000 in
theorem t_L_loop {z : Sh9} {N : Nv9} {X : Cx9} {out : Out9 × Mem9} (C : OK9 z N X out 5 (1, 6) cL_loop RL 8 1 [(0, 10, 13, 28)]) (a0 : Nat) (a1 : Int32) (a2 : Int32) (a3 : Nat) (M : Mem9) : J9 z N X out 5 0 [(0, .ref a0), (1, .int a1), (2, .int a2), (3, .ref a3)] [] M (0, 0) (f_L_loop z a0 a1 a2 a3 M) := by
  refine j_aload_n (pc := 0) C dL_loop_0 rfl ?_
  refine j_iconst (pc := 1) C dL_loop_1 (v := 0) rfl ?_
  refine j_aload_n (pc := 2) C dL_loop_2 rfl ?_
  refine j_iload_n (pc := 3) C dL_loop_3 rfl ?_
  refine j_iload_n (pc := 4) C dL_loop_4 rfl ?_
  refine j_callVh (pc := 5) C dL_loop_5 lv_L_47 rfl (Nat.le_of_ble_eq_true rfl) (Nat.le_of_ble_eq_true rfl) (by decide) rfl ⟨Nat.le_refl _, Nat.le_refl _⟩ (fun l hl o ho => sp_X2_loop hl ho) (fun v2 M1 => ?_) ?_
  · refine j_i2l (pc := 8) C dL_loop_8 ?_
    refine j_lastore (pc := 9) C dL_loop_9 (v := v2) (fun M3 => ?_)
    refine j_goto (pc := 10) C dL_loop_10 (tgt := 17) (by decide) ?_
    refine j_iconst (pc := 17) C dL_loop_17 (v := 0) rfl ?_
    exact j_ireturn (pc := 18) C rfl dL_loop_18 ⟨Nat.zero_le _, Nat.zero_le _⟩
  · intro E9 hE9 M9
    simp only [excs9, List.mem_cons, List.not_mem_nil, or_false] at hE9
    rcases hE9 with rfl | rfl | rfl
    · exact Or.inl (by rw [if_neg (by decide +kernel)])
    · exact Or.inl (by rw [if_neg (by decide +kernel)])
    · refine Or.inr ⟨13, ⟨[], ⟨0, 10, 13, 28⟩, [], rfl, (fun y hy => by cases hy), by decide, by decide, w9_470, rfl⟩, fun q9 => ?_⟩
      rw [if_pos rfl]
      refine j_astore (pc := 13) C dL_loop_13 (Nat.le_of_ble_eq_true rfl) (ls' := [(4, .ref q9), (0, .ref a0), (1, .int a1), (2, .int a2), (3, .ref a3)]) rfl ?_
      refine j_iconst (pc := 15) C dL_loop_15 (v := 1) rfl ?_
      exact j_ireturn (pc := 16) C rfl dL_loop_16 ⟨Nat.le_refl _, Nat.le_refl _⟩
theorem sp_L_loop {l : Launch} {z : Sh9} {N : Nv9} {a0 : Nat} {a1 : Int32} {a2 : Int32} {a3 : Nat} {M : Mem9} {o : Out9 × Mem9} (hl : l.stackTraces = false) (h : f_L_loop z a0 a1 a2 a3 M = some o) : Sp9 l z N yL_loop (Cond.codeWith yL_loop cL_loop 5 (some .int) [(0, 10, 13, 28)]) 8 [.ref a0, .int a1, .int a2, .ref a3] M (1, 6) o :=
  sp9_ofH (rk := 1) (own := RL) (by decide +kernel) rfl (Or.inr (Or.inl ⟨rfl, rfl⟩)) hl (Nat.le_of_ble_eq_true rfl) (by decide) (fun X C => t_L_loop C a0 a1 a2 a3 M) h
def f_L_mend (z : Sh9) (a0 : Nat) (a1 : Int32) (a2 : Nat) (M : Mem9) : Re9 :=
  (bh9 (iv9 z a0 2 (f_X2_mend z a0 a1 M)) (fun v2 M1 => ((sl9 z M1 a2 (0 : Int32) v2).bind fun M3 => (ri9 (0 : Int32) M3))) (fun E9 M9 => (if E9 = "java/lang/IndexOutOfBoundsException" then (ri9 (1 : Int32) M9) else (if E9 = "java/lang/IllegalStateException" then (ri9 (2 : Int32) M9) else none))))
set_option maxRecDepth 20000 in
set_option maxHeartbeats 4000000 in
theorem t_L_mend {z : Sh9} {N : Nv9} {X : Cx9} {out : Out9 × Mem9} (C : OK9 z N X out 4 (1, 6) cL_mend RL 8 1 [(0, 9, 12, 28), (0, 9, 15, 15)]) (a0 : Nat) (a1 : Int32) (a2 : Nat) (M : Mem9) : J9 z N X out 4 0 [(0, .ref a0), (1, .int a1), (2, .ref a2)] [] M (0, 0) (f_L_mend z a0 a1 a2 M) := by
  refine j_aload_n (pc := 0) C dL_mend_0 rfl ?_
  refine j_iconst (pc := 1) C dL_mend_1 (v := 0) rfl ?_
  refine j_aload_n (pc := 2) C dL_mend_2 rfl ?_
  refine j_iload_n (pc := 3) C dL_mend_3 rfl ?_
  refine j_callVh (pc := 4) C dL_mend_4 lv_L_51 rfl (Nat.le_of_ble_eq_true rfl) (Nat.le_of_ble_eq_true rfl) (by decide) rfl ⟨Nat.le_refl _, Nat.le_refl _⟩ (fun l hl o ho => sp_X2_mend hl ho) (fun v2 M1 => ?_) ?_
  · refine j_i2l (pc := 7) C dL_mend_7 ?_
    refine j_lastore (pc := 8) C dL_mend_8 (v := v2) (fun M3 => ?_)
    refine j_goto (pc := 9) C dL_mend_9 (tgt := 18) (by decide) ?_
    refine j_iconst (pc := 18) C dL_mend_18 (v := 0) rfl ?_
    exact j_ireturn (pc := 19) C rfl dL_mend_19 ⟨Nat.zero_le _, Nat.zero_le _⟩
  · intro E9 hE9 M9
    simp only [excs9, List.mem_cons, List.not_mem_nil, or_false] at hE9
    rcases hE9 with rfl | rfl | rfl
    · exact Or.inl (by rw [if_neg (by decide +kernel), if_neg (by decide +kernel)])
    · refine Or.inr ⟨15, ⟨[⟨0, 9, 12, 28⟩], ⟨0, 9, 15, 15⟩, [], rfl, (by
          intro y hy
          simp only [List.mem_cons, List.not_mem_nil, or_false] at hy
          rcases hy with rfl
          · exact ⟨by decide, "java/lang/IndexOutOfBoundsException", by decide +kernel, by decide +kernel, w9_470⟩), by decide, by decide, w9_233, rfl⟩, fun q9 => ?_⟩
      rw [if_neg (by decide +kernel), if_pos rfl]
      refine j_astore_n (pc := 15) C dL_mend_15 (Nat.le_of_ble_eq_true rfl) (ls' := [(3, .ref q9), (0, .ref a0), (1, .int a1), (2, .ref a2)]) rfl ?_
      refine j_iconst (pc := 16) C dL_mend_16 (v := 2) rfl ?_
      exact j_ireturn (pc := 17) C rfl dL_mend_17 ⟨Nat.le_refl _, Nat.le_refl _⟩
    · refine Or.inr ⟨12, ⟨[], ⟨0, 9, 12, 28⟩, [⟨0, 9, 15, 15⟩], rfl, (fun y hy => by cases hy), by decide, by decide, w9_470, rfl⟩, fun q9 => ?_⟩
      rw [if_pos rfl]
      refine j_astore_n (pc := 12) C dL_mend_12 (Nat.le_of_ble_eq_true rfl) (ls' := [(3, .ref q9), (0, .ref a0), (1, .int a1), (2, .ref a2)]) rfl ?_
      refine j_iconst (pc := 13) C dL_mend_13 (v := 1) rfl ?_
      exact j_ireturn (pc := 14) C rfl dL_mend_14 ⟨Nat.le_refl _, Nat.le_refl _⟩
theorem sp_L_mend {l : Launch} {z : Sh9} {N : Nv9} {a0 : Nat} {a1 : Int32} {a2 : Nat} {M : Mem9} {o : Out9 × Mem9} (hl : l.stackTraces = false) (h : f_L_mend z a0 a1 a2 M = some o) : Sp9 l z N yL_mend (Cond.codeWith yL_mend cL_mend 4 (some .int) [(0, 9, 12, 28), (0, 9, 15, 15)]) 8 [.ref a0, .int a1, .ref a2] M (1, 6) o :=
  sp9_ofH (rk := 1) (own := RL) (by decide +kernel) rfl (Or.inr (Or.inl ⟨rfl, rfl⟩)) hl (Nat.le_of_ble_eq_true rfl) (by decide) (fun X C => t_L_mend C a0 a1 a2 M) h
def f_L_restore (z : Sh9) (a0 : Nat) (a1 : Int32) (a2 : Nat) (M : Mem9) : Re9 :=
  (bh9 (iv9 z a0 2 (f_X2_restore z a0 a1 M)) (fun v2 M1 => ((sl9 z M1 a2 (0 : Int32) v2).bind fun M3 => (ri9 (0 : Int32) M3))) (fun E9 M9 => (if E9 = "java/lang/IndexOutOfBoundsException" then (ri9 (1 : Int32) M9) else (if E9 = "java/lang/IllegalStateException" then (ri9 (2 : Int32) M9) else none))))
set_option maxRecDepth 20000 in
set_option maxHeartbeats 4000000 in
theorem t_L_restore {z : Sh9} {N : Nv9} {X : Cx9} {out : Out9 × Mem9} (C : OK9 z N X out 4 (1, 6) cL_restore RL 8 1 [(0, 9, 12, 28), (0, 9, 15, 15)]) (a0 : Nat) (a1 : Int32) (a2 : Nat) (M : Mem9) : J9 z N X out 4 0 [(0, .ref a0), (1, .int a1), (2, .ref a2)] [] M (0, 0) (f_L_restore z a0 a1 a2 M) := by
  refine j_aload_n (pc := 0) C dL_restore_0 rfl ?_
  refine j_iconst (pc := 1) C dL_restore_1 (v := 0) rfl ?_
  refine j_aload_n (pc := 2) C dL_restore_2 rfl ?_
  refine j_iload_n (pc := 3) C dL_restore_3 rfl ?_
  refine j_callVh (pc := 4) C dL_restore_4 lv_L_89 rfl (Nat.le_of_ble_eq_true rfl) (Nat.le_of_ble_eq_true rfl) (by decide) rfl ⟨Nat.le_refl _, Nat.le_refl _⟩ (fun l hl o ho => sp_X2_restore hl ho) (fun v2 M1 => ?_) ?_
  · refine j_i2l (pc := 7) C dL_restore_7 ?_
    refine j_lastore (pc := 8) C dL_restore_8 (v := v2) (fun M3 => ?_)
    refine j_goto (pc := 9) C dL_restore_9 (tgt := 18) (by decide) ?_
    refine j_iconst (pc := 18) C dL_restore_18 (v := 0) rfl ?_
    exact j_ireturn (pc := 19) C rfl dL_restore_19 ⟨Nat.zero_le _, Nat.zero_le _⟩
  · intro E9 hE9 M9
    simp only [excs9, List.mem_cons, List.not_mem_nil, or_false] at hE9
    rcases hE9 with rfl | rfl | rfl
    · exact Or.inl (by rw [if_neg (by decide +kernel), if_neg (by decide +kernel)])
    · refine Or.inr ⟨15, ⟨[⟨0, 9, 12, 28⟩], ⟨0, 9, 15, 15⟩, [], rfl, (by
          intro y hy
          simp only [List.mem_cons, List.not_mem_nil, or_false] at hy
          rcases hy with rfl
          · exact ⟨by decide, "java/lang/IndexOutOfBoundsException", by decide +kernel, by decide +kernel, w9_470⟩), by decide, by decide, w9_233, rfl⟩, fun q9 => ?_⟩
      rw [if_neg (by decide +kernel), if_pos rfl]
      refine j_astore_n (pc := 15) C dL_restore_15 (Nat.le_of_ble_eq_true rfl) (ls' := [(3, .ref q9), (0, .ref a0), (1, .int a1), (2, .ref a2)]) rfl ?_
      refine j_iconst (pc := 16) C dL_restore_16 (v := 2) rfl ?_
      exact j_ireturn (pc := 17) C rfl dL_restore_17 ⟨Nat.le_refl _, Nat.le_refl _⟩
    · refine Or.inr ⟨12, ⟨[], ⟨0, 9, 12, 28⟩, [⟨0, 9, 15, 15⟩], rfl, (fun y hy => by cases hy), by decide, by decide, w9_470, rfl⟩, fun q9 => ?_⟩
      rw [if_pos rfl]
      refine j_astore_n (pc := 12) C dL_restore_12 (Nat.le_of_ble_eq_true rfl) (ls' := [(3, .ref q9), (0, .ref a0), (1, .int a1), (2, .ref a2)]) rfl ?_
      refine j_iconst (pc := 13) C dL_restore_13 (v := 1) rfl ?_
      exact j_ireturn (pc := 14) C rfl dL_restore_14 ⟨Nat.le_refl _, Nat.le_refl _⟩
theorem sp_L_restore {l : Launch} {z : Sh9} {N : Nv9} {a0 : Nat} {a1 : Int32} {a2 : Nat} {M : Mem9} {o : Out9 × Mem9} (hl : l.stackTraces = false) (h : f_L_restore z a0 a1 a2 M = some o) : Sp9 l z N yL_restore (Cond.codeWith yL_restore cL_restore 4 (some .int) [(0, 9, 12, 28), (0, 9, 15, 15)]) 8 [.ref a0, .int a1, .ref a2] M (1, 6) o :=
  sp9_ofH (rk := 1) (own := RL) (by decide +kernel) rfl (Or.inr (Or.inl ⟨rfl, rfl⟩)) hl (Nat.le_of_ble_eq_true rfl) (by decide) (fun X C => t_L_restore C a0 a1 a2 M) h
def f_L_run (z : Sh9) (a0 : Nat) (a1 : Int32) (a2 : Nat) (M : Mem9) : Re9 :=
  (bh9 (iv9 z a0 2 (f_X2_run z a0 a1 M)) (fun v2 M1 => ((sl9 z M1 a2 (0 : Int32) v2).bind fun M3 => (ri9 (0 : Int32) M3))) (fun E9 M9 => (if E9 = "java/lang/IllegalArgumentException" then (ri9 (1 : Int32) M9) else none)))
set_option maxRecDepth 20000 in
set_option maxHeartbeats 4000000 in
theorem t_L_run {z : Sh9} {N : Nv9} {X : Cx9} {out : Out9 × Mem9} (C : OK9 z N X out 4 (1, 6) cL_run RL 7 1 [(0, 9, 12, 13)]) (a0 : Nat) (a1 : Int32) (a2 : Nat) (M : Mem9) : J9 z N X out 4 0 [(0, .ref a0), (1, .int a1), (2, .ref a2)] [] M (0, 0) (f_L_run z a0 a1 a2 M) := by
  refine j_aload_n (pc := 0) C dL_run_0 rfl ?_
  refine j_iconst (pc := 1) C dL_run_1 (v := 0) rfl ?_
  refine j_aload_n (pc := 2) C dL_run_2 rfl ?_
  refine j_iload_n (pc := 3) C dL_run_3 rfl ?_
  refine j_callVh (pc := 4) C dL_run_4 lv_L_54 rfl (Nat.le_of_ble_eq_true rfl) (Nat.le_of_ble_eq_true rfl) (by decide) rfl ⟨Nat.le_refl _, Nat.le_refl _⟩ (fun l hl o ho => sp_X2_run hl ho) (fun v2 M1 => ?_) ?_
  · refine j_i2l (pc := 7) C dL_run_7 ?_
    refine j_lastore (pc := 8) C dL_run_8 (v := v2) (fun M3 => ?_)
    refine j_goto (pc := 9) C dL_run_9 (tgt := 15) (by decide) ?_
    refine j_iconst (pc := 15) C dL_run_15 (v := 0) rfl ?_
    exact j_ireturn (pc := 16) C rfl dL_run_16 ⟨Nat.zero_le _, Nat.zero_le _⟩
  · intro E9 hE9 M9
    simp only [excs9, List.mem_cons, List.not_mem_nil, or_false] at hE9
    rcases hE9 with rfl | rfl | rfl
    · refine Or.inr ⟨12, ⟨[], ⟨0, 9, 12, 13⟩, [], rfl, (fun y hy => by cases hy), by decide, by decide, w9_232, rfl⟩, fun q9 => ?_⟩
      rw [if_pos rfl]
      refine j_astore_n (pc := 12) C dL_run_12 (Nat.le_of_ble_eq_true rfl) (ls' := [(3, .ref q9), (0, .ref a0), (1, .int a1), (2, .ref a2)]) rfl ?_
      refine j_iconst (pc := 13) C dL_run_13 (v := 1) rfl ?_
      exact j_ireturn (pc := 14) C rfl dL_run_14 ⟨Nat.le_refl _, Nat.le_refl _⟩
    · exact Or.inl (by rw [if_neg (by decide +kernel)])
    · exact Or.inl (by rw [if_neg (by decide +kernel)])
theorem sp_L_run {l : Launch} {z : Sh9} {N : Nv9} {a0 : Nat} {a1 : Int32} {a2 : Nat} {M : Mem9} {o : Out9 × Mem9} (hl : l.stackTraces = false) (h : f_L_run z a0 a1 a2 M = some o) : Sp9 l z N yL_run (Cond.codeWith yL_run cL_run 4 (some .int) [(0, 9, 12, 13)]) 7 [.ref a0, .int a1, .ref a2] M (1, 6) o :=
  sp9_ofH (rk := 1) (own := RL) (by decide +kernel) rfl (Or.inr (Or.inl ⟨rfl, rfl⟩)) hl (Nat.le_of_ble_eq_true rfl) (by decide) (fun X C => t_L_run C a0 a1 a2 M) h
def f_L_runScript (z : Sh9) (a0 : Nat) (a1 : Int32) (a2 : Int64) (a3 : Nat) (M : Mem9) : Re9 :=
  (bh9 (iv9 z a0 2 (f_X2_runScript z a0 a1 a2 M)) (fun v2 M1 => ((sl9 z M1 a3 (0 : Int32) v2).bind fun M3 => (ri9 (0 : Int32) M3))) (fun E9 M9 => (if E9 = "java/lang/IllegalArgumentException" then (ri9 (1 : Int32) M9) else none)))
set_option maxRecDepth 20000 in
set_option maxHeartbeats 4000000 in
theorem t_L_runScript {z : Sh9} {N : Nv9} {X : Cx9} {out : Out9 × Mem9} (C : OK9 z N X out 6 (1, 6) cL_runScript RL 7 1 [(0, 11, 14, 13)]) (a0 : Nat) (a1 : Int32) (a2 : Int64) (a3 : Nat) (M : Mem9) : J9 z N X out 6 0 [(0, .ref a0), (1, .int a1), (2, .long a2), (4, .ref a3)] [] M (0, 0) (f_L_runScript z a0 a1 a2 a3 M) := by
  refine j_aload (pc := 0) C dL_runScript_0 rfl ?_
  refine j_iconst (pc := 2) C dL_runScript_2 (v := 0) rfl ?_
  refine j_aload_n (pc := 3) C dL_runScript_3 rfl ?_
  refine j_iload_n (pc := 4) C dL_runScript_4 rfl ?_
  refine j_lload_n (pc := 5) C dL_runScript_5 rfl ?_
  refine j_callVh (pc := 6) C dL_runScript_6 lv_L_78 rfl (Nat.le_of_ble_eq_true rfl) (Nat.le_of_ble_eq_true rfl) (by decide) rfl ⟨Nat.le_refl _, Nat.le_refl _⟩ (fun l hl o ho => sp_X2_runScript hl ho) (fun v2 M1 => ?_) ?_
  · refine j_i2l (pc := 9) C dL_runScript_9 ?_
    refine j_lastore (pc := 10) C dL_runScript_10 (v := v2) (fun M3 => ?_)
    refine j_goto (pc := 11) C dL_runScript_11 (tgt := 18) (by decide) ?_
    refine j_iconst (pc := 18) C dL_runScript_18 (v := 0) rfl ?_
    exact j_ireturn (pc := 19) C rfl dL_runScript_19 ⟨Nat.zero_le _, Nat.zero_le _⟩
  · intro E9 hE9 M9
    simp only [excs9, List.mem_cons, List.not_mem_nil, or_false] at hE9
    rcases hE9 with rfl | rfl | rfl
    · refine Or.inr ⟨14, ⟨[], ⟨0, 11, 14, 13⟩, [], rfl, (fun y hy => by cases hy), by decide, by decide, w9_232, rfl⟩, fun q9 => ?_⟩
      rw [if_pos rfl]
      refine j_astore (pc := 14) C dL_runScript_14 (Nat.le_of_ble_eq_true rfl) (ls' := [(5, .ref q9), (0, .ref a0), (1, .int a1), (2, .long a2), (4, .ref a3)]) rfl ?_
      refine j_iconst (pc := 16) C dL_runScript_16 (v := 1) rfl ?_
      exact j_ireturn (pc := 17) C rfl dL_runScript_17 ⟨Nat.le_refl _, Nat.le_refl _⟩
    · exact Or.inl (by rw [if_neg (by decide +kernel)])
    · exact Or.inl (by rw [if_neg (by decide +kernel)])
theorem sp_L_runScript {l : Launch} {z : Sh9} {N : Nv9} {a0 : Nat} {a1 : Int32} {a2 : Int64} {a3 : Nat} {M : Mem9} {o : Out9 × Mem9} (hl : l.stackTraces = false) (h : f_L_runScript z a0 a1 a2 a3 M = some o) : Sp9 l z N yL_runScript (Cond.codeWith yL_runScript cL_runScript 6 (some .int) [(0, 11, 14, 13)]) 7 [.ref a0, .int a1, .long a2, .ref a3] M (1, 6) o :=
  sp9_ofH (rk := 1) (own := RL) (by decide +kernel) rfl (Or.inr (Or.inl ⟨rfl, rfl⟩)) hl (Nat.le_of_ble_eq_true rfl) (by decide) (fun X C => t_L_runScript C a0 a1 a2 a3 M) h
def f_L_save (z : Sh9) (a0 : Nat) (a1 : Int32) (a2 : Nat) (M : Mem9) : Re9 :=
  (bh9 (iv9 z a0 2 (f_X2_save z a0 a1 M)) (fun v2 M1 => ((sl9 z M1 a2 (0 : Int32) v2).bind fun M3 => (ri9 (0 : Int32) M3))) (fun E9 M9 => (if E9 = "java/lang/IndexOutOfBoundsException" then (ri9 (1 : Int32) M9) else none)))
set_option maxRecDepth 20000 in
set_option maxHeartbeats 4000000 in
theorem t_L_save {z : Sh9} {N : Nv9} {X : Cx9} {out : Out9 × Mem9} (C : OK9 z N X out 4 (1, 6) cL_save RL 8 1 [(0, 9, 12, 28)]) (a0 : Nat) (a1 : Int32) (a2 : Nat) (M : Mem9) : J9 z N X out 4 0 [(0, .ref a0), (1, .int a1), (2, .ref a2)] [] M (0, 0) (f_L_save z a0 a1 a2 M) := by
  refine j_aload_n (pc := 0) C dL_save_0 rfl ?_
  refine j_iconst (pc := 1) C dL_save_1 (v := 0) rfl ?_
  refine j_aload_n (pc := 2) C dL_save_2 rfl ?_
  refine j_iload_n (pc := 3) C dL_save_3 rfl ?_
  refine j_callVh (pc := 4) C dL_save_4 lv_L_86 rfl (Nat.le_of_ble_eq_true rfl) (Nat.le_of_ble_eq_true rfl) (by decide) rfl ⟨Nat.le_refl _, Nat.le_refl _⟩ (fun l hl o ho => sp_X2_save hl ho) (fun v2 M1 => ?_) ?_
  · refine j_i2l (pc := 7) C dL_save_7 ?_
    refine j_lastore (pc := 8) C dL_save_8 (v := v2) (fun M3 => ?_)
    refine j_goto (pc := 9) C dL_save_9 (tgt := 15) (by decide) ?_
    refine j_iconst (pc := 15) C dL_save_15 (v := 0) rfl ?_
    exact j_ireturn (pc := 16) C rfl dL_save_16 ⟨Nat.zero_le _, Nat.zero_le _⟩
  · intro E9 hE9 M9
    simp only [excs9, List.mem_cons, List.not_mem_nil, or_false] at hE9
    rcases hE9 with rfl | rfl | rfl
    · exact Or.inl (by rw [if_neg (by decide +kernel)])
    · exact Or.inl (by rw [if_neg (by decide +kernel)])
    · refine Or.inr ⟨12, ⟨[], ⟨0, 9, 12, 28⟩, [], rfl, (fun y hy => by cases hy), by decide, by decide, w9_470, rfl⟩, fun q9 => ?_⟩
      rw [if_pos rfl]
      refine j_astore_n (pc := 12) C dL_save_12 (Nat.le_of_ble_eq_true rfl) (ls' := [(3, .ref q9), (0, .ref a0), (1, .int a1), (2, .ref a2)]) rfl ?_
      refine j_iconst (pc := 13) C dL_save_13 (v := 1) rfl ?_
      exact j_ireturn (pc := 14) C rfl dL_save_14 ⟨Nat.le_refl _, Nat.le_refl _⟩
theorem sp_L_save {l : Launch} {z : Sh9} {N : Nv9} {a0 : Nat} {a1 : Int32} {a2 : Nat} {M : Mem9} {o : Out9 × Mem9} (hl : l.stackTraces = false) (h : f_L_save z a0 a1 a2 M = some o) : Sp9 l z N yL_save (Cond.codeWith yL_save cL_save 4 (some .int) [(0, 9, 12, 28)]) 8 [.ref a0, .int a1, .ref a2] M (1, 6) o :=
  sp9_ofH (rk := 1) (own := RL) (by decide +kernel) rfl (Or.inr (Or.inl ⟨rfl, rfl⟩)) hl (Nat.le_of_ble_eq_true rfl) (by decide) (fun X C => t_L_save C a0 a1 a2 M) h
def f_L_set (z : Sh9) (a0 : Nat) (a1 : Int32) (a2 : Int32) (a3 : Nat) (M : Mem9) : Re9 :=
  (bh9 (iv9 z a0 2 (f_X2_set z a0 a1 a2 M)) (fun v2 M1 => ((sl9 z M1 a3 (0 : Int32) v2).bind fun M3 => (ri9 (0 : Int32) M3))) (fun E9 M9 => (if E9 = "java/lang/IllegalArgumentException" then (ri9 (1 : Int32) M9) else none)))
set_option maxRecDepth 20000 in
set_option maxHeartbeats 4000000 in
theorem t_L_set {z : Sh9} {N : Nv9} {X : Cx9} {out : Out9 × Mem9} (C : OK9 z N X out 5 (1, 6) cL_set RL 7 1 [(0, 10, 13, 13)]) (a0 : Nat) (a1 : Int32) (a2 : Int32) (a3 : Nat) (M : Mem9) : J9 z N X out 5 0 [(0, .ref a0), (1, .int a1), (2, .int a2), (3, .ref a3)] [] M (0, 0) (f_L_set z a0 a1 a2 a3 M) := by
  refine j_aload_n (pc := 0) C dL_set_0 rfl ?_
  refine j_iconst (pc := 1) C dL_set_1 (v := 0) rfl ?_
  refine j_aload_n (pc := 2) C dL_set_2 rfl ?_
  refine j_iload_n (pc := 3) C dL_set_3 rfl ?_
  refine j_iload_n (pc := 4) C dL_set_4 rfl ?_
  refine j_callVh (pc := 5) C dL_set_5 lv_L_57 rfl (Nat.le_of_ble_eq_true rfl) (Nat.le_of_ble_eq_true rfl) (by decide) rfl ⟨Nat.le_refl _, Nat.le_refl _⟩ (fun l hl o ho => sp_X2_set hl ho) (fun v2 M1 => ?_) ?_
  · refine j_i2l (pc := 8) C dL_set_8 ?_
    refine j_lastore (pc := 9) C dL_set_9 (v := v2) (fun M3 => ?_)
    refine j_goto (pc := 10) C dL_set_10 (tgt := 17) (by decide) ?_
    refine j_iconst (pc := 17) C dL_set_17 (v := 0) rfl ?_
    exact j_ireturn (pc := 18) C rfl dL_set_18 ⟨Nat.zero_le _, Nat.zero_le _⟩
  · intro E9 hE9 M9
    simp only [excs9, List.mem_cons, List.not_mem_nil, or_false] at hE9
    rcases hE9 with rfl | rfl | rfl
    · refine Or.inr ⟨13, ⟨[], ⟨0, 10, 13, 13⟩, [], rfl, (fun y hy => by cases hy), by decide, by decide, w9_232, rfl⟩, fun q9 => ?_⟩
      rw [if_pos rfl]
      refine j_astore (pc := 13) C dL_set_13 (Nat.le_of_ble_eq_true rfl) (ls' := [(4, .ref q9), (0, .ref a0), (1, .int a1), (2, .int a2), (3, .ref a3)]) rfl ?_
      refine j_iconst (pc := 15) C dL_set_15 (v := 1) rfl ?_
      exact j_ireturn (pc := 16) C rfl dL_set_16 ⟨Nat.le_refl _, Nat.le_refl _⟩
    · exact Or.inl (by rw [if_neg (by decide +kernel)])
    · exact Or.inl (by rw [if_neg (by decide +kernel)])
theorem sp_L_set {l : Launch} {z : Sh9} {N : Nv9} {a0 : Nat} {a1 : Int32} {a2 : Int32} {a3 : Nat} {M : Mem9} {o : Out9 × Mem9} (hl : l.stackTraces = false) (h : f_L_set z a0 a1 a2 a3 M = some o) : Sp9 l z N yL_set (Cond.codeWith yL_set cL_set 5 (some .int) [(0, 10, 13, 13)]) 7 [.ref a0, .int a1, .int a2, .ref a3] M (1, 6) o :=
  sp9_ofH (rk := 1) (own := RL) (by decide +kernel) rfl (Or.inr (Or.inl ⟨rfl, rfl⟩)) hl (Nat.le_of_ble_eq_true rfl) (by decide) (fun X C => t_L_set C a0 a1 a2 a3 M) h
def f_L_setting (z : Sh9) (a0 : Nat) (a1 : Int32) (a2 : Nat) (M : Mem9) : Re9 :=
  (bh9 (iv9 z a0 2 (f_X2_setting z a0 a1 M)) (fun v2 M1 => ((sl9 z M1 a2 (0 : Int32) v2).bind fun M3 => (ri9 (0 : Int32) M3))) (fun E9 M9 => (if E9 = "java/lang/IllegalArgumentException" then (ri9 (1 : Int32) M9) else none)))
set_option maxRecDepth 20000 in
set_option maxHeartbeats 4000000 in
theorem t_L_setting {z : Sh9} {N : Nv9} {X : Cx9} {out : Out9 × Mem9} (C : OK9 z N X out 4 (1, 6) cL_setting RL 7 1 [(0, 9, 12, 13)]) (a0 : Nat) (a1 : Int32) (a2 : Nat) (M : Mem9) : J9 z N X out 4 0 [(0, .ref a0), (1, .int a1), (2, .ref a2)] [] M (0, 0) (f_L_setting z a0 a1 a2 M) := by
  refine j_aload_n (pc := 0) C dL_setting_0 rfl ?_
  refine j_iconst (pc := 1) C dL_setting_1 (v := 0) rfl ?_
  refine j_aload_n (pc := 2) C dL_setting_2 rfl ?_
  refine j_iload_n (pc := 3) C dL_setting_3 rfl ?_
  refine j_callVh (pc := 4) C dL_setting_4 lv_L_37 rfl (Nat.le_of_ble_eq_true rfl) (Nat.le_of_ble_eq_true rfl) (by decide) rfl ⟨Nat.le_refl _, Nat.le_refl _⟩ (fun l hl o ho => sp_X2_setting hl ho) (fun v2 M1 => ?_) ?_
  · refine j_i2l (pc := 7) C dL_setting_7 ?_
    refine j_lastore (pc := 8) C dL_setting_8 (v := v2) (fun M3 => ?_)
    refine j_goto (pc := 9) C dL_setting_9 (tgt := 15) (by decide) ?_
    refine j_iconst (pc := 15) C dL_setting_15 (v := 0) rfl ?_
    exact j_ireturn (pc := 16) C rfl dL_setting_16 ⟨Nat.zero_le _, Nat.zero_le _⟩
  · intro E9 hE9 M9
    simp only [excs9, List.mem_cons, List.not_mem_nil, or_false] at hE9
    rcases hE9 with rfl | rfl | rfl
    · refine Or.inr ⟨12, ⟨[], ⟨0, 9, 12, 13⟩, [], rfl, (fun y hy => by cases hy), by decide, by decide, w9_232, rfl⟩, fun q9 => ?_⟩
      rw [if_pos rfl]
      refine j_astore_n (pc := 12) C dL_setting_12 (Nat.le_of_ble_eq_true rfl) (ls' := [(3, .ref q9), (0, .ref a0), (1, .int a1), (2, .ref a2)]) rfl ?_
      refine j_iconst (pc := 13) C dL_setting_13 (v := 1) rfl ?_
      exact j_ireturn (pc := 14) C rfl dL_setting_14 ⟨Nat.le_refl _, Nat.le_refl _⟩
    · exact Or.inl (by rw [if_neg (by decide +kernel)])
    · exact Or.inl (by rw [if_neg (by decide +kernel)])
theorem sp_L_setting {l : Launch} {z : Sh9} {N : Nv9} {a0 : Nat} {a1 : Int32} {a2 : Nat} {M : Mem9} {o : Out9 × Mem9} (hl : l.stackTraces = false) (h : f_L_setting z a0 a1 a2 M = some o) : Sp9 l z N yL_setting (Cond.codeWith yL_setting cL_setting 4 (some .int) [(0, 9, 12, 13)]) 7 [.ref a0, .int a1, .ref a2] M (1, 6) o :=
  sp9_ofH (rk := 1) (own := RL) (by decide +kernel) rfl (Or.inr (Or.inl ⟨rfl, rfl⟩)) hl (Nat.le_of_ble_eq_true rfl) (by decide) (fun X C => t_L_setting C a0 a1 a2 M) h
def f_L_simulate (z : Sh9) (a0 : Nat) (a1 : Int64) (a2 : Int32) (a3 : Nat) (M : Mem9) : Re9 :=
  (bh9 (iv9 z a0 2 (f_X2_simulate z a0 a1 a2 M)) (fun v2 M1 => ((sl9 z M1 a3 (0 : Int32) v2).bind fun M3 => (ri9 (0 : Int32) M3))) (fun E9 M9 => (if E9 = "java/lang/IllegalArgumentException" then (ri9 (1 : Int32) M9) else none)))
set_option maxRecDepth 20000 in
set_option maxHeartbeats 4000000 in
theorem t_L_simulate {z : Sh9} {N : Nv9} {X : Cx9} {out : Out9 × Mem9} (C : OK9 z N X out 6 (1, 6) cL_simulate RL 7 1 [(0, 11, 14, 13)]) (a0 : Nat) (a1 : Int64) (a2 : Int32) (a3 : Nat) (M : Mem9) : J9 z N X out 6 0 [(0, .ref a0), (1, .long a1), (3, .int a2), (4, .ref a3)] [] M (0, 0) (f_L_simulate z a0 a1 a2 a3 M) := by
  refine j_aload (pc := 0) C dL_simulate_0 rfl ?_
  refine j_iconst (pc := 2) C dL_simulate_2 (v := 0) rfl ?_
  refine j_aload_n (pc := 3) C dL_simulate_3 rfl ?_
  refine j_lload_n (pc := 4) C dL_simulate_4 rfl ?_
  refine j_iload_n (pc := 5) C dL_simulate_5 rfl ?_
  refine j_callVh (pc := 6) C dL_simulate_6 lv_L_82 rfl (Nat.le_of_ble_eq_true rfl) (Nat.le_of_ble_eq_true rfl) (by decide) rfl ⟨Nat.le_refl _, Nat.le_refl _⟩ (fun l hl o ho => sp_X2_simulate hl ho) (fun v2 M1 => ?_) ?_
  · refine j_i2l (pc := 9) C dL_simulate_9 ?_
    refine j_lastore (pc := 10) C dL_simulate_10 (v := v2) (fun M3 => ?_)
    refine j_goto (pc := 11) C dL_simulate_11 (tgt := 18) (by decide) ?_
    refine j_iconst (pc := 18) C dL_simulate_18 (v := 0) rfl ?_
    exact j_ireturn (pc := 19) C rfl dL_simulate_19 ⟨Nat.zero_le _, Nat.zero_le _⟩
  · intro E9 hE9 M9
    simp only [excs9, List.mem_cons, List.not_mem_nil, or_false] at hE9
    rcases hE9 with rfl | rfl | rfl
    · refine Or.inr ⟨14, ⟨[], ⟨0, 11, 14, 13⟩, [], rfl, (fun y hy => by cases hy), by decide, by decide, w9_232, rfl⟩, fun q9 => ?_⟩
      rw [if_pos rfl]
      refine j_astore (pc := 14) C dL_simulate_14 (Nat.le_of_ble_eq_true rfl) (ls' := [(5, .ref q9), (0, .ref a0), (1, .long a1), (3, .int a2), (4, .ref a3)]) rfl ?_
      refine j_iconst (pc := 16) C dL_simulate_16 (v := 1) rfl ?_
      exact j_ireturn (pc := 17) C rfl dL_simulate_17 ⟨Nat.le_refl _, Nat.le_refl _⟩
    · exact Or.inl (by rw [if_neg (by decide +kernel)])
    · exact Or.inl (by rw [if_neg (by decide +kernel)])
theorem sp_L_simulate {l : Launch} {z : Sh9} {N : Nv9} {a0 : Nat} {a1 : Int64} {a2 : Int32} {a3 : Nat} {M : Mem9} {o : Out9 × Mem9} (hl : l.stackTraces = false) (h : f_L_simulate z a0 a1 a2 a3 M = some o) : Sp9 l z N yL_simulate (Cond.codeWith yL_simulate cL_simulate 6 (some .int) [(0, 11, 14, 13)]) 7 [.ref a0, .long a1, .int a2, .ref a3] M (1, 6) o :=
  sp9_ofH (rk := 1) (own := RL) (by decide +kernel) rfl (Or.inr (Or.inl ⟨rfl, rfl⟩)) hl (Nat.le_of_ble_eq_true rfl) (by decide) (fun X C => t_L_simulate C a0 a1 a2 a3 M) h
def f_L_throughIn (z : Sh9) (a0 : Nat) (a1 : Int32) (a2 : Int32) (a3 : Nat) (M : Mem9) : Re9 :=
  (bh9 (iv9 z a0 2 (f_X2_throughIn z a0 a1 a2 M)) (fun v2 M1 => ((sl9 z M1 a3 (0 : Int32) v2).bind fun M3 => (ri9 (0 : Int32) M3))) (fun E9 M9 => (if E9 = "java/lang/IndexOutOfBoundsException" then (ri9 (1 : Int32) M9) else none)))
set_option maxRecDepth 20000 in
set_option maxHeartbeats 4000000 in
theorem t_L_throughIn {z : Sh9} {N : Nv9} {X : Cx9} {out : Out9 × Mem9} (C : OK9 z N X out 5 (1, 6) cL_throughIn RL 9 1 [(0, 10, 13, 28)]) (a0 : Nat) (a1 : Int32) (a2 : Int32) (a3 : Nat) (M : Mem9) : J9 z N X out 5 0 [(0, .ref a0), (1, .int a1), (2, .int a2), (3, .ref a3)] [] M (0, 0) (f_L_throughIn z a0 a1 a2 a3 M) := by
  refine j_aload_n (pc := 0) C dL_throughIn_0 rfl ?_
  refine j_iconst (pc := 1) C dL_throughIn_1 (v := 0) rfl ?_
  refine j_aload_n (pc := 2) C dL_throughIn_2 rfl ?_
  refine j_iload_n (pc := 3) C dL_throughIn_3 rfl ?_
  refine j_iload_n (pc := 4) C dL_throughIn_4 rfl ?_
  refine j_callVh (pc := 5) C dL_throughIn_5 lv_L_66 rfl (Nat.le_of_ble_eq_true rfl) (Nat.le_of_ble_eq_true rfl) (by decide) rfl ⟨Nat.le_refl _, Nat.le_refl _⟩ (fun l hl o ho => sp_X2_throughIn hl ho) (fun v2 M1 => ?_) ?_
  · refine j_i2l (pc := 8) C dL_throughIn_8 ?_
    refine j_lastore (pc := 9) C dL_throughIn_9 (v := v2) (fun M3 => ?_)
    refine j_goto (pc := 10) C dL_throughIn_10 (tgt := 17) (by decide) ?_
    refine j_iconst (pc := 17) C dL_throughIn_17 (v := 0) rfl ?_
    exact j_ireturn (pc := 18) C rfl dL_throughIn_18 ⟨Nat.zero_le _, Nat.zero_le _⟩
  · intro E9 hE9 M9
    simp only [excs9, List.mem_cons, List.not_mem_nil, or_false] at hE9
    rcases hE9 with rfl | rfl | rfl
    · exact Or.inl (by rw [if_neg (by decide +kernel)])
    · exact Or.inl (by rw [if_neg (by decide +kernel)])
    · refine Or.inr ⟨13, ⟨[], ⟨0, 10, 13, 28⟩, [], rfl, (fun y hy => by cases hy), by decide, by decide, w9_470, rfl⟩, fun q9 => ?_⟩
      rw [if_pos rfl]
      refine j_astore (pc := 13) C dL_throughIn_13 (Nat.le_of_ble_eq_true rfl) (ls' := [(4, .ref q9), (0, .ref a0), (1, .int a1), (2, .int a2), (3, .ref a3)]) rfl ?_
      refine j_iconst (pc := 15) C dL_throughIn_15 (v := 1) rfl ?_
      exact j_ireturn (pc := 16) C rfl dL_throughIn_16 ⟨Nat.le_refl _, Nat.le_refl _⟩
theorem sp_L_throughIn {l : Launch} {z : Sh9} {N : Nv9} {a0 : Nat} {a1 : Int32} {a2 : Int32} {a3 : Nat} {M : Mem9} {o : Out9 × Mem9} (hl : l.stackTraces = false) (h : f_L_throughIn z a0 a1 a2 a3 M = some o) : Sp9 l z N yL_throughIn (Cond.codeWith yL_throughIn cL_throughIn 5 (some .int) [(0, 10, 13, 28)]) 9 [.ref a0, .int a1, .int a2, .ref a3] M (1, 6) o :=
  sp9_ofH (rk := 1) (own := RL) (by decide +kernel) rfl (Or.inr (Or.inl ⟨rfl, rfl⟩)) hl (Nat.le_of_ble_eq_true rfl) (by decide) (fun X C => t_L_throughIn C a0 a1 a2 a3 M) h
def f_L_undo (z : Sh9) (a0 : Nat) (a1 : Nat) (M : Mem9) : Re9 :=
  (bh9 (iv9 z a0 2 (f_X2_undo z a0  M)) (fun v2 M1 => ((sl9 z M1 a1 (0 : Int32) v2).bind fun M3 => (ri9 (0 : Int32) M3))) (fun E9 M9 => (if E9 = "java/lang/IllegalStateException" then (ri9 (1 : Int32) M9) else none)))
set_option maxRecDepth 20000 in
set_option maxHeartbeats 4000000 in
theorem t_L_undo {z : Sh9} {N : Nv9} {X : Cx9} {out : Out9 × Mem9} (C : OK9 z N X out 3 (1, 6) cL_undo RL 7 1 [(0, 8, 11, 15)]) (a0 : Nat) (a1 : Nat) (M : Mem9) : J9 z N X out 3 0 [(0, .ref a0), (1, .ref a1)] [] M (0, 0) (f_L_undo z a0 a1 M) := by
  refine j_aload_n (pc := 0) C dL_undo_0 rfl ?_
  refine j_iconst (pc := 1) C dL_undo_1 (v := 0) rfl ?_
  refine j_aload_n (pc := 2) C dL_undo_2 rfl ?_
  refine j_callVh (pc := 3) C dL_undo_3 lv_L_60 rfl (Nat.le_of_ble_eq_true rfl) (Nat.le_of_ble_eq_true rfl) (by decide) rfl ⟨Nat.le_refl _, Nat.le_refl _⟩ (fun l hl o ho => sp_X2_undo hl ho) (fun v2 M1 => ?_) ?_
  · refine j_i2l (pc := 6) C dL_undo_6 ?_
    refine j_lastore (pc := 7) C dL_undo_7 (v := v2) (fun M3 => ?_)
    refine j_goto (pc := 8) C dL_undo_8 (tgt := 14) (by decide) ?_
    refine j_iconst (pc := 14) C dL_undo_14 (v := 0) rfl ?_
    exact j_ireturn (pc := 15) C rfl dL_undo_15 ⟨Nat.zero_le _, Nat.zero_le _⟩
  · intro E9 hE9 M9
    simp only [excs9, List.mem_cons, List.not_mem_nil, or_false] at hE9
    rcases hE9 with rfl | rfl | rfl
    · exact Or.inl (by rw [if_neg (by decide +kernel)])
    · refine Or.inr ⟨11, ⟨[], ⟨0, 8, 11, 15⟩, [], rfl, (fun y hy => by cases hy), by decide, by decide, w9_233, rfl⟩, fun q9 => ?_⟩
      rw [if_pos rfl]
      refine j_astore_n (pc := 11) C dL_undo_11 (Nat.le_of_ble_eq_true rfl) (ls' := [(2, .ref q9), (0, .ref a0), (1, .ref a1)]) rfl ?_
      refine j_iconst (pc := 12) C dL_undo_12 (v := 1) rfl ?_
      exact j_ireturn (pc := 13) C rfl dL_undo_13 ⟨Nat.le_refl _, Nat.le_refl _⟩
    · exact Or.inl (by rw [if_neg (by decide +kernel)])
theorem sp_L_undo {l : Launch} {z : Sh9} {N : Nv9} {a0 : Nat} {a1 : Nat} {M : Mem9} {o : Out9 × Mem9} (hl : l.stackTraces = false) (h : f_L_undo z a0 a1 M = some o) : Sp9 l z N yL_undo (Cond.codeWith yL_undo cL_undo 3 (some .int) [(0, 8, 11, 15)]) 7 [.ref a0, .ref a1] M (1, 6) o :=
  sp9_ofH (rk := 1) (own := RL) (by decide +kernel) rfl (Or.inr (Or.inl ⟨rfl, rfl⟩)) hl (Nat.le_of_ble_eq_true rfl) (by decide) (fun X C => t_L_undo C a0 a1 M) h
def f_L_vehicle (z : Sh9) (a0 : Nat) (a1 : Int32) (a2 : Int32) (a3 : Int32) (a4 : Nat) (M : Mem9) : Re9 :=
  (bh9 (iv9 z a0 2 (f_X2_vehicle z a0 a1 a2 a3 M)) (fun v2 M1 => ((sl9 z M1 a4 (0 : Int32) v2).bind fun M3 => (ri9 (0 : Int32) M3))) (fun E9 M9 => (if E9 = "java/lang/IndexOutOfBoundsException" then (ri9 (1 : Int32) M9) else (if E9 = "java/lang/IllegalArgumentException" then (ri9 (2 : Int32) M9) else none))))
set_option maxRecDepth 20000 in
set_option maxHeartbeats 4000000 in
theorem t_L_vehicle {z : Sh9} {N : Nv9} {X : Cx9} {out : Out9 × Mem9} (C : OK9 z N X out 6 (1, 6) cL_vehicle RL 9 1 [(0, 12, 15, 28), (0, 12, 19, 13)]) (a0 : Nat) (a1 : Int32) (a2 : Int32) (a3 : Int32) (a4 : Nat) (M : Mem9) : J9 z N X out 6 0 [(0, .ref a0), (1, .int a1), (2, .int a2), (3, .int a3), (4, .ref a4)] [] M (0, 0) (f_L_vehicle z a0 a1 a2 a3 a4 M) := by
  refine j_aload (pc := 0) C dL_vehicle_0 rfl ?_
  refine j_iconst (pc := 2) C dL_vehicle_2 (v := 0) rfl ?_
  refine j_aload_n (pc := 3) C dL_vehicle_3 rfl ?_
  refine j_iload_n (pc := 4) C dL_vehicle_4 rfl ?_
  refine j_iload_n (pc := 5) C dL_vehicle_5 rfl ?_
  refine j_iload_n (pc := 6) C dL_vehicle_6 rfl ?_
  refine j_callVh (pc := 7) C dL_vehicle_7 lv_L_30 rfl (Nat.le_of_ble_eq_true rfl) (Nat.le_of_ble_eq_true rfl) (by decide) rfl ⟨Nat.le_refl _, Nat.le_refl _⟩ (fun l hl o ho => sp_X2_vehicle hl ho) (fun v2 M1 => ?_) ?_
  · refine j_i2l (pc := 10) C dL_vehicle_10 ?_
    refine j_lastore (pc := 11) C dL_vehicle_11 (v := v2) (fun M3 => ?_)
    refine j_goto (pc := 12) C dL_vehicle_12 (tgt := 23) (by decide) ?_
    refine j_iconst (pc := 23) C dL_vehicle_23 (v := 0) rfl ?_
    exact j_ireturn (pc := 24) C rfl dL_vehicle_24 ⟨Nat.zero_le _, Nat.zero_le _⟩
  · intro E9 hE9 M9
    simp only [excs9, List.mem_cons, List.not_mem_nil, or_false] at hE9
    rcases hE9 with rfl | rfl | rfl
    · refine Or.inr ⟨19, ⟨[⟨0, 12, 15, 28⟩], ⟨0, 12, 19, 13⟩, [], rfl, (by
          intro y hy
          simp only [List.mem_cons, List.not_mem_nil, or_false] at hy
          rcases hy with rfl
          · exact ⟨by decide, "java/lang/IndexOutOfBoundsException", by decide +kernel, by decide +kernel, w9_470⟩), by decide, by decide, w9_232, rfl⟩, fun q9 => ?_⟩
      rw [if_neg (by decide +kernel), if_pos rfl]
      refine j_astore (pc := 19) C dL_vehicle_19 (Nat.le_of_ble_eq_true rfl) (ls' := [(5, .ref q9), (0, .ref a0), (1, .int a1), (2, .int a2), (3, .int a3), (4, .ref a4)]) rfl ?_
      refine j_iconst (pc := 21) C dL_vehicle_21 (v := 2) rfl ?_
      exact j_ireturn (pc := 22) C rfl dL_vehicle_22 ⟨Nat.le_refl _, Nat.le_refl _⟩
    · exact Or.inl (by rw [if_neg (by decide +kernel), if_neg (by decide +kernel)])
    · refine Or.inr ⟨15, ⟨[], ⟨0, 12, 15, 28⟩, [⟨0, 12, 19, 13⟩], rfl, (fun y hy => by cases hy), by decide, by decide, w9_470, rfl⟩, fun q9 => ?_⟩
      rw [if_pos rfl]
      refine j_astore (pc := 15) C dL_vehicle_15 (Nat.le_of_ble_eq_true rfl) (ls' := [(5, .ref q9), (0, .ref a0), (1, .int a1), (2, .int a2), (3, .int a3), (4, .ref a4)]) rfl ?_
      refine j_iconst (pc := 17) C dL_vehicle_17 (v := 1) rfl ?_
      exact j_ireturn (pc := 18) C rfl dL_vehicle_18 ⟨Nat.le_refl _, Nat.le_refl _⟩
theorem sp_L_vehicle {l : Launch} {z : Sh9} {N : Nv9} {a0 : Nat} {a1 : Int32} {a2 : Int32} {a3 : Int32} {a4 : Nat} {M : Mem9} {o : Out9 × Mem9} (hl : l.stackTraces = false) (h : f_L_vehicle z a0 a1 a2 a3 a4 M = some o) : Sp9 l z N yL_vehicle (Cond.codeWith yL_vehicle cL_vehicle 6 (some .int) [(0, 12, 15, 28), (0, 12, 19, 13)]) 9 [.ref a0, .int a1, .int a2, .int a3, .ref a4] M (1, 6) o :=
  sp9_ofH (rk := 1) (own := RL) (by decide +kernel) rfl (Or.inr (Or.inl ⟨rfl, rfl⟩)) hl (Nat.le_of_ble_eq_true rfl) (by decide) (fun X C => t_L_vehicle C a0 a1 a2 a3 a4 M) h
def f_L_why (z : Sh9) (a0 : Nat) (a1 : Int32) (a2 : Nat) (M : Mem9) : Re9 :=
  (bh9 (iv9 z a0 2 (f_X2_why z a0 a1 M)) (fun v2 M1 => ((sl9 z M1 a2 (0 : Int32) v2).bind fun M3 => (ri9 (0 : Int32) M3))) (fun E9 M9 => (if E9 = "java/lang/IndexOutOfBoundsException" then (ri9 (1 : Int32) M9) else none)))
set_option maxRecDepth 20000 in
set_option maxHeartbeats 4000000 in
theorem t_L_why {z : Sh9} {N : Nv9} {X : Cx9} {out : Out9 × Mem9} (C : OK9 z N X out 4 (1, 6) cL_why RL 8 1 [(0, 9, 12, 28)]) (a0 : Nat) (a1 : Int32) (a2 : Nat) (M : Mem9) : J9 z N X out 4 0 [(0, .ref a0), (1, .int a1), (2, .ref a2)] [] M (0, 0) (f_L_why z a0 a1 a2 M) := by
  refine j_aload_n (pc := 0) C dL_why_0 rfl ?_
  refine j_iconst (pc := 1) C dL_why_1 (v := 0) rfl ?_
  refine j_aload_n (pc := 2) C dL_why_2 rfl ?_
  refine j_iload_n (pc := 3) C dL_why_3 rfl ?_
  refine j_callVh (pc := 4) C dL_why_4 lv_L_34 rfl (Nat.le_of_ble_eq_true rfl) (Nat.le_of_ble_eq_true rfl) (by decide) rfl ⟨Nat.le_refl _, Nat.le_refl _⟩ (fun l hl o ho => sp_X2_why hl ho) (fun v2 M1 => ?_) ?_
  · refine j_i2l (pc := 7) C dL_why_7 ?_
    refine j_lastore (pc := 8) C dL_why_8 (v := v2) (fun M3 => ?_)
    refine j_goto (pc := 9) C dL_why_9 (tgt := 15) (by decide) ?_
    refine j_iconst (pc := 15) C dL_why_15 (v := 0) rfl ?_
    exact j_ireturn (pc := 16) C rfl dL_why_16 ⟨Nat.zero_le _, Nat.zero_le _⟩
  · intro E9 hE9 M9
    simp only [excs9, List.mem_cons, List.not_mem_nil, or_false] at hE9
    rcases hE9 with rfl | rfl | rfl
    · exact Or.inl (by rw [if_neg (by decide +kernel)])
    · exact Or.inl (by rw [if_neg (by decide +kernel)])
    · refine Or.inr ⟨12, ⟨[], ⟨0, 9, 12, 28⟩, [], rfl, (fun y hy => by cases hy), by decide, by decide, w9_470, rfl⟩, fun q9 => ?_⟩
      rw [if_pos rfl]
      refine j_astore_n (pc := 12) C dL_why_12 (Nat.le_of_ble_eq_true rfl) (ls' := [(3, .ref q9), (0, .ref a0), (1, .int a1), (2, .ref a2)]) rfl ?_
      refine j_iconst (pc := 13) C dL_why_13 (v := 1) rfl ?_
      exact j_ireturn (pc := 14) C rfl dL_why_14 ⟨Nat.le_refl _, Nat.le_refl _⟩
theorem sp_L_why {l : Launch} {z : Sh9} {N : Nv9} {a0 : Nat} {a1 : Int32} {a2 : Nat} {M : Mem9} {o : Out9 × Mem9} (hl : l.stackTraces = false) (h : f_L_why z a0 a1 a2 M = some o) : Sp9 l z N yL_why (Cond.codeWith yL_why cL_why 4 (some .int) [(0, 9, 12, 28)]) 8 [.ref a0, .int a1, .ref a2] M (1, 6) o :=
  sp9_ofH (rk := 1) (own := RL) (by decide +kernel) rfl (Or.inr (Or.inl ⟨rfl, rfl⟩)) hl (Nat.le_of_ble_eq_true rfl) (by decide) (fun X C => t_L_why C a0 a1 a2 M) h
