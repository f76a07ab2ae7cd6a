def f_L_tryAbout (z : Sh9) (a0 : Nat) (a1 : Int32) (M : Mem9) : Re9 :=
  (bh9 (iv9 z a0 2 (f_X2_about z a0 a1 M)) (fun v2 M1 => (ri9 v2 M1)) (fun E9 M9 => (if E9 = "java/lang/IllegalArgumentException" then (ri9 (-9999002 : Int32) M9) else none)))
set_option maxRecDepth 20000 in
set_option maxHeartbeats 4000000 in
theorem t_L_tryAbout {z : Sh9} {N : Nv9} {X : Cx9} {out : Out9 × Mem9} (C : OK9 z N X out 3 (1, 6) cL_tryAbout RL 7 1 [(0, 5, 6, 16)]) (a0 : Nat) (a1 : Int32) (M : Mem9) : J9 z N X out 3 0 [(0, .ref a0), (1, .int a1)] [] M (0, 0) (f_L_tryAbout z a0 a1 M) := by
  refine j_aload_n (pc := 0) C dL_tryAbout_0 rfl ?_
  refine j_iload_n (pc := 1) C dL_tryAbout_1 rfl ?_
  refine j_callVh (pc := 2) C dL_tryAbout_2 lv_L_42 rfl (Nat.le_of_ble_eq_true rfl) (Nat.le_of_ble_eq_true rfl) (by decide) rfl ⟨Nat.le_refl _, Nat.le_refl _⟩ (fun l hl o ho => sp_X2_about hl ho) (fun v2 M1 => ?_) ?_
  · exact j_ireturn (pc := 5) C rfl dL_tryAbout_5 ⟨Nat.zero_le _, Nat.zero_le _⟩
  · intro E9 hE9 M9
    simp only [excs9, List.mem_cons, List.not_mem_nil, or_false] at hE9
    rcases hE9 with rfl | rfl | rfl
    · refine Or.inr ⟨6, ⟨[], ⟨0, 5, 6, 16⟩, [], rfl, (fun y hy => by cases hy), by decide, by decide, w9_184, rfl⟩, fun q9 => ?_⟩
      rw [if_pos rfl]
      refine j_astore_n (pc := 6) C dL_tryAbout_6 (Nat.le_of_ble_eq_true rfl) (ls' := [(2, .ref q9), (0, .ref a0), (1, .int a1)]) rfl ?_
      refine j_ldc (pc := 7) C dL_tryAbout_7 (v := -9999002) w9_274 ?_
      exact j_ireturn (pc := 9) C rfl dL_tryAbout_9 ⟨Nat.le_refl _, Nat.le_refl _⟩
    · exact Or.inl (by rw [if_neg (by decide +kernel)])
    · exact Or.inl (by rw [if_neg (by decide +kernel)])
theorem sp_L_tryAbout {l : Launch} {z : Sh9} {N : Nv9} {a0 : Nat} {a1 : Int32} {M : Mem9} {o : Out9 × Mem9} (hl : l.stackTraces = false) (h : f_L_tryAbout z a0 a1 M = some o) : Sp9 l z N yL_tryAbout (Cond.codeWith yL_tryAbout cL_tryAbout 3 (some .int) [(0, 5, 6, 16)]) 7 [.ref a0, .int a1] M (1, 6) o :=
  sp9_ofH (rk := 1) (own := RL) (by decide +kernel) rfl (Or.inr (Or.inl ⟨rfl, rfl⟩)) hl (Nat.le_of_ble_eq_true rfl) (by decide) (fun X C => t_L_tryAbout C a0 a1 M) h
def f_L_tryAdd (z : Sh9) (a0 : Nat) (M : Mem9) : Re9 :=
  (bh9 (iv9 z a0 2 (f_X2_lane z a0  M)) (fun v2 M1 => (ri9 v2 M1)) (fun E9 M9 => (if E9 = "java/lang/IllegalStateException" then (ri9 (-9999003 : Int32) M9) else none)))
set_option maxRecDepth 20000 in
set_option maxHeartbeats 4000000 in
theorem t_L_tryAdd {z : Sh9} {N : Nv9} {X : Cx9} {out : Out9 × Mem9} (C : OK9 z N X out 2 (1, 6) cL_tryAdd RL 7 1 [(0, 4, 5, 19)]) (a0 : Nat) (M : Mem9) : J9 z N X out 2 0 [(0, .ref a0)] [] M (0, 0) (f_L_tryAdd z a0 M) := by
  refine j_aload_n (pc := 0) C dL_tryAdd_0 rfl ?_
  refine j_callVh (pc := 1) C dL_tryAdd_1 lv_L_59 rfl (Nat.le_of_ble_eq_true rfl) (Nat.le_of_ble_eq_true rfl) (by decide) rfl ⟨Nat.le_refl _, Nat.le_refl _⟩ (fun l hl o ho => sp_X2_lane hl ho) (fun v2 M1 => ?_) ?_
  · exact j_ireturn (pc := 4) C rfl dL_tryAdd_4 ⟨Nat.zero_le _, Nat.zero_le _⟩
  · intro E9 hE9 M9
    simp only [excs9, List.mem_cons, List.not_mem_nil, or_false] at hE9
    rcases hE9 with rfl | rfl | rfl
    · exact Or.inl (by rw [if_neg (by decide +kernel)])
    · refine Or.inr ⟨5, ⟨[], ⟨0, 4, 5, 19⟩, [], rfl, (fun y hy => by cases hy), by decide, by decide, w9_185, rfl⟩, fun q9 => ?_⟩
      rw [if_pos rfl]
      refine j_astore_n (pc := 5) C dL_tryAdd_5 (Nat.le_of_ble_eq_true rfl) (ls' := [(1, .ref q9), (0, .ref a0)]) rfl ?_
      refine j_ldc (pc := 6) C dL_tryAdd_6 (v := -9999003) w9_275 ?_
      exact j_ireturn (pc := 8) C rfl dL_tryAdd_8 ⟨Nat.le_refl _, Nat.le_refl _⟩
    · exact Or.inl (by rw [if_neg (by decide +kernel)])
theorem sp_L_tryAdd {l : Launch} {z : Sh9} {N : Nv9} {a0 : Nat} {M : Mem9} {o : Out9 × Mem9} (hl : l.stackTraces = false) (h : f_L_tryAdd z a0 M = some o) : Sp9 l z N yL_tryAdd (Cond.codeWith yL_tryAdd cL_tryAdd 2 (some .int) [(0, 4, 5, 19)]) 7 [.ref a0] M (1, 6) o :=
  sp9_ofH (rk := 1) (own := RL) (by decide +kernel) rfl (Or.inr (Or.inl ⟨rfl, rfl⟩)) hl (Nat.le_of_ble_eq_true rfl) (by decide) (fun X C => t_L_tryAdd C a0 M) h
def f_L_tryAppend (z : Sh9) (a0 : Nat) (a1 : Int32) (M : Mem9) : Re9 :=
  (bh9 (iv9 z a0 2 (f_X2_append z a0 a1 M)) (fun v2 M1 => (ri9 v2 M1)) (fun E9 M9 => (if E9 = "java/lang/IllegalArgumentException" then (ri9 (-9999002 : Int32) M9) else (if E9 = "java/lang/IllegalStateException" then (ri9 (-9999003 : Int32) M9) else none))))
set_option maxRecDepth 20000 in
set_option maxHeartbeats 4000000 in
theorem t_L_tryAppend {z : Sh9} {N : Nv9} {X : Cx9} {out : Out9 × Mem9} (C : OK9 z N X out 3 (1, 6) cL_tryAppend RL 7 1 [(0, 5, 6, 16), (0, 5, 10, 19)]) (a0 : Nat) (a1 : Int32) (M : Mem9) : J9 z N X out 3 0 [(0, .ref a0), (1, .int a1)] [] M (0, 0) (f_L_tryAppend z a0 a1 M) := by
  refine j_aload_n (pc := 0) C dL_tryAppend_0 rfl ?_
  refine j_iload_n (pc := 1) C dL_tryAppend_1 rfl ?_
  refine j_callVh (pc := 2) C dL_tryAppend_2 lv_L_34 rfl (Nat.le_of_ble_eq_true rfl) (Nat.le_of_ble_eq_true rfl) (by decide) rfl ⟨Nat.le_refl _, Nat.le_refl _⟩ (fun l hl o ho => sp_X2_append hl ho) (fun v2 M1 => ?_) ?_
  · exact j_ireturn (pc := 5) C rfl dL_tryAppend_5 ⟨Nat.zero_le _, Nat.zero_le _⟩
  · intro E9 hE9 M9
    simp only [excs9, List.mem_cons, List.not_mem_nil, or_false] at hE9
    rcases hE9 with rfl | rfl | rfl
    · refine Or.inr ⟨6, ⟨[], ⟨0, 5, 6, 16⟩, [⟨0, 5, 10, 19⟩], rfl, (fun y hy => by cases hy), by decide, by decide, w9_184, rfl⟩, fun q9 => ?_⟩
      rw [if_pos rfl]
      refine j_astore_n (pc := 6) C dL_tryAppend_6 (Nat.le_of_ble_eq_true rfl) (ls' := [(2, .ref q9), (0, .ref a0), (1, .int a1)]) rfl ?_
      refine j_ldc (pc := 7) C dL_tryAppend_7 (v := -9999002) w9_274 ?_
      exact j_ireturn (pc := 9) C rfl dL_tryAppend_9 ⟨Nat.le_refl _, Nat.le_refl _⟩
    · refine Or.inr ⟨10, ⟨[⟨0, 5, 6, 16⟩], ⟨0, 5, 10, 19⟩, [], rfl, (by
          intro y hy
          simp only [List.mem_cons, List.not_mem_nil, or_false] at hy
          rcases hy with rfl
          · exact ⟨by decide, "java/lang/IllegalArgumentException", by decide +kernel, by decide +kernel, w9_184⟩), by decide, by decide, w9_185, rfl⟩, fun q9 => ?_⟩
      rw [if_neg (by decide +kernel), if_pos rfl]
      refine j_astore_n (pc := 10) C dL_tryAppend_10 (Nat.le_of_ble_eq_true rfl) (ls' := [(2, .ref q9), (0, .ref a0), (1, .int a1)]) rfl ?_
      refine j_ldc (pc := 11) C dL_tryAppend_11 (v := -9999003) w9_275 ?_
      exact j_ireturn (pc := 13) C rfl dL_tryAppend_13 ⟨Nat.le_refl _, Nat.le_refl _⟩
    · exact Or.inl (by rw [if_neg (by decide +kernel), if_neg (by decide +kernel)])
theorem sp_L_tryAppend {l : Launch} {z : Sh9} {N : Nv9} {a0 : Nat} {a1 : Int32} {M : Mem9} {o : Out9 × Mem9} (hl : l.stackTraces = false) (h : f_L_tryAppend z a0 a1 M = some o) : Sp9 l z N yL_tryAppend (Cond.codeWith yL_tryAppend cL_tryAppend 3 (some .int) [(0, 5, 6, 16), (0, 5, 10, 19)]) 7 [.ref a0, .int a1] M (1, 6) o :=
  sp9_ofH (rk := 1) (own := RL) (by decide +kernel) rfl (Or.inr (Or.inl ⟨rfl, rfl⟩)) hl (Nat.le_of_ble_eq_true rfl) (by decide) (fun X C => t_L_tryAppend C a0 a1 M) h
def f_L_tryBack (z : Sh9) (a0 : Nat) (a1 : Int32) (M : Mem9) : Re9 :=
  (bh9 (iv9 z a0 2 (f_X2_restore z a0 a1 M)) (fun v2 M1 => (ri9 v2 M1)) (fun E9 M9 => (if E9 = "java/lang/IndexOutOfBoundsException" then (ri9 (-9999001 : Int32) M9) else (if E9 = "java/lang/IllegalStateException" then (ri9 (-9999003 : Int32) M9) else none))))
set_option maxRecDepth 20000 in
set_option maxHeartbeats 4000000 in
theorem t_L_tryBack {z : Sh9} {N : Nv9} {X : Cx9} {out : Out9 × Mem9} (C : OK9 z N X out 3 (1, 6) cL_tryBack RL 8 1 [(0, 5, 6, 13), (0, 5, 10, 19)]) (a0 : Nat) (a1 : Int32) (M : Mem9) : J9 z N X out 3 0 [(0, .ref a0), (1, .int a1)] [] M (0, 0) (f_L_tryBack z a0 a1 M) := by
  refine j_aload_n (pc := 0) C dL_tryBack_0 rfl ?_
  refine j_iload_n (pc := 1) C dL_tryBack_1 rfl ?_
  refine j_callVh (pc := 2) C dL_tryBack_2 lv_L_92 rfl (Nat.le_of_ble_eq_true rfl) (Nat.le_of_ble_eq_true rfl) (by decide) rfl ⟨Nat.le_refl _, Nat.le_refl _⟩ (fun l hl o ho => sp_X2_restore hl ho) (fun v2 M1 => ?_) ?_
  · exact j_ireturn (pc := 5) C rfl dL_tryBack_5 ⟨Nat.zero_le _, Nat.zero_le _⟩
  · intro E9 hE9 M9
    simp only [excs9, List.mem_cons, List.not_mem_nil, or_false] at hE9
    rcases hE9 with rfl | rfl | rfl
    · exact Or.inl (by rw [if_neg (by decide +kernel), if_neg (by decide +kernel)])
    · refine Or.inr ⟨10, ⟨[⟨0, 5, 6, 13⟩], ⟨0, 5, 10, 19⟩, [], rfl, (by
          intro y hy
          simp only [List.mem_cons, List.not_mem_nil, or_false] at hy
          rcases hy with rfl
          · exact ⟨by decide, "java/lang/IndexOutOfBoundsException", by decide +kernel, by decide +kernel, w9_454⟩), by decide, by decide, w9_185, rfl⟩, fun q9 => ?_⟩
      rw [if_neg (by decide +kernel), if_pos rfl]
      refine j_astore_n (pc := 10) C dL_tryBack_10 (Nat.le_of_ble_eq_true rfl) (ls' := [(2, .ref q9), (0, .ref a0), (1, .int a1)]) rfl ?_
      refine j_ldc (pc := 11) C dL_tryBack_11 (v := -9999003) w9_275 ?_
      exact j_ireturn (pc := 13) C rfl dL_tryBack_13 ⟨Nat.le_refl _, Nat.le_refl _⟩
    · refine Or.inr ⟨6, ⟨[], ⟨0, 5, 6, 13⟩, [⟨0, 5, 10, 19⟩], rfl, (fun y hy => by cases hy), by decide, by decide, w9_454, rfl⟩, fun q9 => ?_⟩
      rw [if_pos rfl]
      refine j_astore_n (pc := 6) C dL_tryBack_6 (Nat.le_of_ble_eq_true rfl) (ls' := [(2, .ref q9), (0, .ref a0), (1, .int a1)]) rfl ?_
      refine j_ldc (pc := 7) C dL_tryBack_7 (v := -9999001) w9_489 ?_
      exact j_ireturn (pc := 9) C rfl dL_tryBack_9 ⟨Nat.le_refl _, Nat.le_refl _⟩
theorem sp_L_tryBack {l : Launch} {z : Sh9} {N : Nv9} {a0 : Nat} {a1 : Int32} {M : Mem9} {o : Out9 × Mem9} (hl : l.stackTraces = false) (h : f_L_tryBack z a0 a1 M = some o) : Sp9 l z N yL_tryBack (Cond.codeWith yL_tryBack cL_tryBack 3 (some .int) [(0, 5, 6, 13), (0, 5, 10, 19)]) 8 [.ref a0, .int a1] M (1, 6) o :=
  sp9_ofH (rk := 1) (own := RL) (by decide +kernel) rfl (Or.inr (Or.inl ⟨rfl, rfl⟩)) hl (Nat.le_of_ble_eq_true rfl) (by decide) (fun X C => t_L_tryBack C a0 a1 M) h
def f_L_tryBest (z : Sh9) (a0 : Nat) (a1 : Int32) (M : Mem9) : Re9 :=
  (bh9 (iv9 z a0 2 (f_X2_bestLane z a0 a1 M)) (fun v2 M1 => (ri9 v2 M1)) (fun E9 M9 => (if E9 = "java/lang/IllegalArgumentException" then (ri9 (-9999002 : Int32) M9) else none)))
set_option maxRecDepth 20000 in
set_option maxHeartbeats 4000000 in
theorem t_L_tryBest {z : Sh9} {N : Nv9} {X : Cx9} {out : Out9 × Mem9} (C : OK9 z N X out 3 (1, 6) cL_tryBest RL 8 1 [(0, 5, 6, 16)]) (a0 : Nat) (a1 : Int32) (M : Mem9) : J9 z N X out 3 0 [(0, .ref a0), (1, .int a1)] [] M (0, 0) (f_L_tryBest z a0 a1 M) := by
  refine j_aload_n (pc := 0) C dL_tryBest_0 rfl ?_
  refine j_iload_n (pc := 1) C dL_tryBest_1 rfl ?_
  refine j_callVh (pc := 2) C dL_tryBest_2 lv_L_80 rfl (Nat.le_of_ble_eq_true rfl) (Nat.le_of_ble_eq_true rfl) (by decide) rfl ⟨Nat.le_refl _, Nat.le_refl _⟩ (fun l hl o ho => sp_X2_bestLane hl ho) (fun v2 M1 => ?_) ?_
  · exact j_ireturn (pc := 5) C rfl dL_tryBest_5 ⟨Nat.zero_le _, Nat.zero_le _⟩
  · intro E9 hE9 M9
    simp only [excs9, List.mem_cons, List.not_mem_nil, or_false] at hE9
    rcases hE9 with rfl | rfl | rfl
    · refine Or.inr ⟨6, ⟨[], ⟨0, 5, 6, 16⟩, [], rfl, (fun y hy => by cases hy), by decide, by decide, w9_184, rfl⟩, fun q9 => ?_⟩
      rw [if_pos rfl]
      refine j_astore_n (pc := 6) C dL_tryBest_6 (Nat.le_of_ble_eq_true rfl) (ls' := [(2, .ref q9), (0, .ref a0), (1, .int a1)]) rfl ?_
      refine j_ldc (pc := 7) C dL_tryBest_7 (v := -9999002) w9_274 ?_
      exact j_ireturn (pc := 9) C rfl dL_tryBest_9 ⟨Nat.le_refl _, Nat.le_refl _⟩
    · exact Or.inl (by rw [if_neg (by decide +kernel)])
    · exact Or.inl (by rw [if_neg (by decide +kernel)])
theorem sp_L_tryBest {l : Launch} {z : Sh9} {N : Nv9} {a0 : Nat} {a1 : Int32} {M : Mem9} {o : Out9 × Mem9} (hl : l.stackTraces = false) (h : f_L_tryBest z a0 a1 M = some o) : Sp9 l z N yL_tryBest (Cond.codeWith yL_tryBest cL_tryBest 3 (some .int) [(0, 5, 6, 16)]) 8 [.ref a0, .int a1] M (1, 6) o :=
  sp9_ofH (rk := 1) (own := RL) (by decide +kernel) rfl (Or.inr (Or.inl ⟨rfl, rfl⟩)) hl (Nat.le_of_ble_eq_true rfl) (by decide) (fun X C => t_L_tryBest C a0 a1 M) h
def f_L_tryComing (z : Sh9) (a0 : Nat) (a1 : Int32) (a2 : Int32) (M : Mem9) : Re9 :=
  (bh9 (iv9 z a0 2 (f_X2_coming z a0 a1 a2 M)) (fun v2 M1 => (ri9 v2 M1)) (fun E9 M9 => (if E9 = "java/lang/IllegalArgumentException" then (ri9 (-9999002 : Int32) M9) else none)))
set_option maxRecDepth 20000 in
set_option maxHeartbeats 4000000 in
theorem t_L_tryComing {z : Sh9} {N : Nv9} {X : Cx9} {out : Out9 × Mem9} (C : OK9 z N X out 4 (1, 6) cL_tryComing RL 7 1 [(0, 6, 7, 16)]) (a0 : Nat) (a1 : Int32) (a2 : Int32) (M : Mem9) : J9 z N X out 4 0 [(0, .ref a0), (1, .int a1), (2, .int a2)] [] M (0, 0) (f_L_tryComing z a0 a1 a2 M) := by
  refine j_aload_n (pc := 0) C dL_tryComing_0 rfl ?_
  refine j_iload_n (pc := 1) C dL_tryComing_1 rfl ?_
  refine j_iload_n (pc := 2) C dL_tryComing_2 rfl ?_
  refine j_callVh (pc := 3) C dL_tryComing_3 lv_L_83 rfl (Nat.le_of_ble_eq_true rfl) (Nat.le_of_ble_eq_true rfl) (by decide) rfl ⟨Nat.le_refl _, Nat.le_refl _⟩ (fun l hl o ho => sp_X2_coming hl ho) (fun v2 M1 => ?_) ?_
  · exact j_ireturn (pc := 6) C rfl dL_tryComing_6 ⟨Nat.zero_le _, Nat.zero_le _⟩
  · intro E9 hE9 M9
    simp only [excs9, List.mem_cons, List.not_mem_nil, or_false] at hE9
    rcases hE9 with rfl | rfl | rfl
    · refine Or.inr ⟨7, ⟨[], ⟨0, 6, 7, 16⟩, [], rfl, (fun y hy => by cases hy), by decide, by decide, w9_184, rfl⟩, fun q9 => ?_⟩
      rw [if_pos rfl]
      refine j_astore_n (pc := 7) C dL_tryComing_7 (Nat.le_of_ble_eq_true rfl) (ls' := [(3, .ref q9), (0, .ref a0), (1, .int a1), (2, .int a2)]) rfl ?_
      refine j_ldc (pc := 8) C dL_tryComing_8 (v := -9999002) w9_274 ?_
      exact j_ireturn (pc := 10) C rfl dL_tryComing_10 ⟨Nat.le_refl _, Nat.le_refl _⟩
    · exact Or.inl (by rw [if_neg (by decide +kernel)])
    · exact Or.inl (by rw [if_neg (by decide +kernel)])
theorem sp_L_tryComing {l : Launch} {z : Sh9} {N : Nv9} {a0 : Nat} {a1 : Int32} {a2 : Int32} {M : Mem9} {o : Out9 × Mem9} (hl : l.stackTraces = false) (h : f_L_tryComing z a0 a1 a2 M = some o) : Sp9 l z N yL_tryComing (Cond.codeWith yL_tryComing cL_tryComing 4 (some .int) [(0, 6, 7, 16)]) 7 [.ref a0, .int a1, .int a2] M (1, 6) o :=
  sp9_ofH (rk := 1) (own := RL) (by decide +kernel) rfl (Or.inr (Or.inl ⟨rfl, rfl⟩)) hl (Nat.le_of_ble_eq_true rfl) (by decide) (fun X C => t_L_tryComing C a0 a1 a2 M) h
def f_L_tryEmpty (z : Sh9) (a0 : Nat) (a1 : Int32) (M : Mem9) : Re9 :=
  (bh9 (iv9 z a0 2 (f_X2_emptyIn z a0 a1 M)) (fun v2 M1 => (ri9 v2 M1)) (fun E9 M9 => (if E9 = "java/lang/IndexOutOfBoundsException" then (ri9 (-9999001 : Int32) M9) else none)))
set_option maxRecDepth 20000 in
set_option maxHeartbeats 4000000 in
theorem t_L_tryEmpty {z : Sh9} {N : Nv9} {X : Cx9} {out : Out9 × Mem9} (C : OK9 z N X out 3 (1, 6) cL_tryEmpty RL 8 1 [(0, 5, 6, 13)]) (a0 : Nat) (a1 : Int32) (M : Mem9) : J9 z N X out 3 0 [(0, .ref a0), (1, .int a1)] [] M (0, 0) (f_L_tryEmpty z a0 a1 M) := by
  refine j_aload_n (pc := 0) C dL_tryEmpty_0 rfl ?_
  refine j_iload_n (pc := 1) C dL_tryEmpty_1 rfl ?_
  refine j_callVh (pc := 2) C dL_tryEmpty_2 lv_L_74 rfl (Nat.le_of_ble_eq_true rfl) (Nat.le_of_ble_eq_true rfl) (by decide) rfl ⟨Nat.le_refl _, Nat.le_refl _⟩ (fun l hl o ho => sp_X2_emptyIn hl ho) (fun v2 M1 => ?_) ?_
  · exact j_ireturn (pc := 5) C rfl dL_tryEmpty_5 ⟨Nat.zero_le _, Nat.zero_le _⟩
  · intro E9 hE9 M9
    simp only [excs9, List.mem_cons, List.not_mem_nil, or_false] at hE9
    rcases hE9 with rfl | rfl | rfl
    · exact Or.inl (by rw [if_neg (by decide +kernel)])
    · exact Or.inl (by rw [if_neg (by decide +kernel)])
    · refine Or.inr ⟨6, ⟨[], ⟨0, 5, 6, 13⟩, [], rfl, (fun y hy => by cases hy), by decide, by decide, w9_454, rfl⟩, fun q9 => ?_⟩
      rw [if_pos rfl]
      refine j_astore_n (pc := 6) C dL_tryEmpty_6 (Nat.le_of_ble_eq_true rfl) (ls' := [(2, .ref q9), (0, .ref a0), (1, .int a1)]) rfl ?_
      refine j_ldc (pc := 7) C dL_tryEmpty_7 (v := -9999001) w9_489 ?_
      exact j_ireturn (pc := 9) C rfl dL_tryEmpty_9 ⟨Nat.le_refl _, Nat.le_refl _⟩
theorem sp_L_tryEmpty {l : Launch} {z : Sh9} {N : Nv9} {a0 : Nat} {a1 : Int32} {M : Mem9} {o : Out9 × Mem9} (hl : l.stackTraces = false) (h : f_L_tryEmpty z a0 a1 M = some o) : Sp9 l z N yL_tryEmpty (Cond.codeWith yL_tryEmpty cL_tryEmpty 3 (some .int) [(0, 5, 6, 13)]) 8 [.ref a0, .int a1] M (1, 6) o :=
  sp9_ofH (rk := 1) (own := RL) (by decide +kernel) rfl (Or.inr (Or.inl ⟨rfl, rfl⟩)) hl (Nat.le_of_ble_eq_true rfl) (by decide) (fun X C => t_L_tryEmpty C a0 a1 M) h
def f_L_tryHits (z : Sh9) (a0 : Nat) (a1 : Int32) (M : Mem9) : Re9 :=
  (bh9 (iv9 z a0 2 (f_X2_hitsIn z a0 a1 M)) (fun v2 M1 => (ri9 v2 M1)) (fun E9 M9 => (if E9 = "java/lang/IndexOutOfBoundsException" then (ri9 (-9999001 : Int32) M9) else none)))
set_option maxRecDepth 20000 in
set_option maxHeartbeats 4000000 in
theorem t_L_tryHits {z : Sh9} {N : Nv9} {X : Cx9} {out : Out9 × Mem9} (C : OK9 z N X out 3 (1, 6) cL_tryHits RL 8 1 [(0, 5, 6, 13)]) (a0 : Nat) (a1 : Int32) (M : Mem9) : J9 z N X out 3 0 [(0, .ref a0), (1, .int a1)] [] M (0, 0) (f_L_tryHits z a0 a1 M) := by
  refine j_aload_n (pc := 0) C dL_tryHits_0 rfl ?_
  refine j_iload_n (pc := 1) C dL_tryHits_1 rfl ?_
  refine j_callVh (pc := 2) C dL_tryHits_2 lv_L_86 rfl (Nat.le_of_ble_eq_true rfl) (Nat.le_of_ble_eq_true rfl) (by decide) rfl ⟨Nat.le_refl _, Nat.le_refl _⟩ (fun l hl o ho => sp_X2_hitsIn hl ho) (fun v2 M1 => ?_) ?_
  · exact j_ireturn (pc := 5) C rfl dL_tryHits_5 ⟨Nat.zero_le _, Nat.zero_le _⟩
  · intro E9 hE9 M9
    simp only [excs9, List.mem_cons, List.not_mem_nil, or_false] at hE9
    rcases hE9 with rfl | rfl | rfl
    · exact Or.inl (by rw [if_neg (by decide +kernel)])
    · exact Or.inl (by rw [if_neg (by decide +kernel)])
    · refine Or.inr ⟨6, ⟨[], ⟨0, 5, 6, 13⟩, [], rfl, (fun y hy => by cases hy), by decide, by decide, w9_454, rfl⟩, fun q9 => ?_⟩
      rw [if_pos rfl]
      refine j_astore_n (pc := 6) C dL_tryHits_6 (Nat.le_of_ble_eq_true rfl) (ls' := [(2, .ref q9), (0, .ref a0), (1, .int a1)]) rfl ?_
      refine j_ldc (pc := 7) C dL_tryHits_7 (v := -9999001) w9_489 ?_
      exact j_ireturn (pc := 9) C rfl dL_tryHits_9 ⟨Nat.le_refl _, Nat.le_refl _⟩
theorem sp_L_tryHits {l : Launch} {z : Sh9} {N : Nv9} {a0 : Nat} {a1 : Int32} {M : Mem9} {o : Out9 × Mem9} (hl : l.stackTraces = false) (h : f_L_tryHits z a0 a1 M = some o) : Sp9 l z N yL_tryHits (Cond.codeWith yL_tryHits cL_tryHits 3 (some .int) [(0, 5, 6, 13)]) 8 [.ref a0, .int a1] M (1, 6) o :=
  sp9_ofH (rk := 1) (own := RL) (by decide +kernel) rfl (Or.inr (Or.inl ⟨rfl, rfl⟩)) hl (Nat.le_of_ble_eq_true rfl) (by decide) (fun X C => t_L_tryHits C a0 a1 M) h
def f_L_tryKeep (z : Sh9) (a0 : Nat) (a1 : Int32) (M : Mem9) : Re9 :=
  (bh9 (iv9 z a0 2 (f_X2_save z a0 a1 M)) (fun v2 M1 => (ri9 v2 M1)) (fun E9 M9 => (if E9 = "java/lang/IndexOutOfBoundsException" then (ri9 (-9999001 : Int32) M9) else none)))
set_option maxRecDepth 20000 in
set_option maxHeartbeats 4000000 in
theorem t_L_tryKeep {z : Sh9} {N : Nv9} {X : Cx9} {out : Out9 × Mem9} (C : OK9 z N X out 3 (1, 6) cL_tryKeep RL 8 1 [(0, 5, 6, 13)]) (a0 : Nat) (a1 : Int32) (M : Mem9) : J9 z N X out 3 0 [(0, .ref a0), (1, .int a1)] [] M (0, 0) (f_L_tryKeep z a0 a1 M) := by
  refine j_aload_n (pc := 0) C dL_tryKeep_0 rfl ?_
  refine j_iload_n (pc := 1) C dL_tryKeep_1 rfl ?_
  refine j_callVh (pc := 2) C dL_tryKeep_2 lv_L_89 rfl (Nat.le_of_ble_eq_true rfl) (Nat.le_of_ble_eq_true rfl) (by decide) rfl ⟨Nat.le_refl _, Nat.le_refl _⟩ (fun l hl o ho => sp_X2_save hl ho) (fun v2 M1 => ?_) ?_
  · exact j_ireturn (pc := 5) C rfl dL_tryKeep_5 ⟨Nat.zero_le _, Nat.zero_le _⟩
  · intro E9 hE9 M9
    simp only [excs9, List.mem_cons, List.not_mem_nil, or_false] at hE9
    rcases hE9 with rfl | rfl | rfl
    · exact Or.inl (by rw [if_neg (by decide +kernel)])
    · exact Or.inl (by rw [if_neg (by decide +kernel)])
    · refine Or.inr ⟨6, ⟨[], ⟨0, 5, 6, 13⟩, [], rfl, (fun y hy => by cases hy), by decide, by decide, w9_454, rfl⟩, fun q9 => ?_⟩
      rw [if_pos rfl]
      refine j_astore_n (pc := 6) C dL_tryKeep_6 (Nat.le_of_ble_eq_true rfl) (ls' := [(2, .ref q9), (0, .ref a0), (1, .int a1)]) rfl ?_
      refine j_ldc (pc := 7) C dL_tryKeep_7 (v := -9999001) w9_489 ?_
      exact j_ireturn (pc := 9) C rfl dL_tryKeep_9 ⟨Nat.le_refl _, Nat.le_refl _⟩
theorem sp_L_tryKeep {l : Launch} {z : Sh9} {N : Nv9} {a0 : Nat} {a1 : Int32} {M : Mem9} {o : Out9 × Mem9} (hl : l.stackTraces = false) (h : f_L_tryKeep z a0 a1 M = some o) : Sp9 l z N yL_tryKeep (Cond.codeWith yL_tryKeep cL_tryKeep 3 (some .int) [(0, 5, 6, 13)]) 8 [.ref a0, .int a1] M (1, 6) o :=
  sp9_ofH (rk := 1) (own := RL) (by decide +kernel) rfl (Or.inr (Or.inl ⟨rfl, rfl⟩)) hl (Nat.le_of_ble_eq_true rfl) (by decide) (fun X C => t_L_tryKeep C a0 a1 M) h
def f_L_tryLane (z : Sh9) (a0 : Nat) (a1 : Int32) (a2 : Int32) (M : Mem9) : Re9 :=
  (bh9 (iv9 z a0 2 (f_X2_laneOf z a0 a1 a2 M)) (fun v2 M1 => (ri9 v2 M1)) (fun E9 M9 => (if E9 = "java/lang/IndexOutOfBoundsException" then (ri9 (-9999001 : Int32) M9) else (if E9 = "java/lang/IllegalArgumentException" then (ri9 (-9999002 : Int32) M9) else none))))
set_option maxRecDepth 20000 in
set_option maxHeartbeats 4000000 in
theorem t_L_tryLane {z : Sh9} {N : Nv9} {X : Cx9} {out : Out9 × Mem9} (C : OK9 z N X out 4 (1, 6) cL_tryLane RL 8 1 [(0, 6, 7, 13), (0, 6, 11, 16)]) (a0 : Nat) (a1 : Int32) (a2 : Int32) (M : Mem9) : J9 z N X out 4 0 [(0, .ref a0), (1, .int a1), (2, .int a2)] [] M (0, 0) (f_L_tryLane z a0 a1 a2 M) := by
  refine j_aload_n (pc := 0) C dL_tryLane_0 rfl ?_
  refine j_iload_n (pc := 1) C dL_tryLane_1 rfl ?_
  refine j_iload_n (pc := 2) C dL_tryLane_2 rfl ?_
  refine j_callVh (pc := 3) C dL_tryLane_3 lv_L_45 rfl (Nat.le_of_ble_eq_true rfl) (Nat.le_of_ble_eq_true rfl) (by decide) rfl ⟨Nat.le_refl _, Nat.le_refl _⟩ (fun l hl o ho => sp_X2_laneOf hl ho) (fun v2 M1 => ?_) ?_
  · exact j_ireturn (pc := 6) C rfl dL_tryLane_6 ⟨Nat.zero_le _, Nat.zero_le _⟩
  · intro E9 hE9 M9
    simp only [excs9, List.mem_cons, List.not_mem_nil, or_false] at hE9
    rcases hE9 with rfl | rfl | rfl
    · refine Or.inr ⟨11, ⟨[⟨0, 6, 7, 13⟩], ⟨0, 6, 11, 16⟩, [], rfl, (by
          intro y hy
          simp only [List.mem_cons, List.not_mem_nil, or_false] at hy
          rcases hy with rfl
          · exact ⟨by decide, "java/lang/IndexOutOfBoundsException", by decide +kernel, by decide +kernel, w9_454⟩), by decide, by decide, w9_184, rfl⟩, fun q9 => ?_⟩
      rw [if_neg (by decide +kernel), if_pos rfl]
      refine j_astore_n (pc := 11) C dL_tryLane_11 (Nat.le_of_ble_eq_true rfl) (ls' := [(3, .ref q9), (0, .ref a0), (1, .int a1), (2, .int a2)]) rfl ?_
      refine j_ldc (pc := 12) C dL_tryLane_12 (v := -9999002) w9_274 ?_
      exact j_ireturn (pc := 14) C rfl dL_tryLane_14 ⟨Nat.le_refl _, Nat.le_refl _⟩
    · exact Or.inl (by rw [if_neg (by decide +kernel), if_neg (by decide +kernel)])
    · refine Or.inr ⟨7, ⟨[], ⟨0, 6, 7, 13⟩, [⟨0, 6, 11, 16⟩], rfl, (fun y hy => by cases hy), by decide, by decide, w9_454, rfl⟩, fun q9 => ?_⟩
      rw [if_pos rfl]
      refine j_astore_n (pc := 7) C dL_tryLane_7 (Nat.le_of_ble_eq_true rfl) (ls' := [(3, .ref q9), (0, .ref a0), (1, .int a1), (2, .int a2)]) rfl ?_
      refine j_ldc (pc := 8) C dL_tryLane_8 (v := -9999001) w9_489 ?_
      exact j_ireturn (pc := 10) C rfl dL_tryLane_10 ⟨Nat.le_refl _, Nat.le_refl _⟩
theorem sp_L_tryLane {l : Launch} {z : Sh9} {N : Nv9} {a0 : Nat} {a1 : Int32} {a2 : Int32} {M : Mem9} {o : Out9 × Mem9} (hl : l.stackTraces = false) (h : f_L_tryLane z a0 a1 a2 M = some o) : Sp9 l z N yL_tryLane (Cond.codeWith yL_tryLane cL_tryLane 4 (some .int) [(0, 6, 7, 13), (0, 6, 11, 16)]) 8 [.ref a0, .int a1, .int a2] M (1, 6) o :=
  sp9_ofH (rk := 1) (own := RL) (by decide +kernel) rfl (Or.inr (Or.inl ⟨rfl, rfl⟩)) hl (Nat.le_of_ble_eq_true rfl) (by decide) (fun X C => t_L_tryLane C a0 a1 a2 M) h
def f_L_tryLay (z : Sh9) (a0 : Nat) (a1 : Int32) (a2 : Int32) (M : Mem9) : Re9 :=
  (bh9 (iv9 z a0 2 (f_X2_set z a0 a1 a2 M)) (fun v2 M1 => (ri9 v2 M1)) (fun E9 M9 => (if E9 = "java/lang/IllegalArgumentException" then (ri9 (-9999002 : Int32) M9) else none)))
set_option maxRecDepth 20000 in
set_option maxHeartbeats 4000000 in
theorem t_L_tryLay {z : Sh9} {N : Nv9} {X : Cx9} {out : Out9 × Mem9} (C : OK9 z N X out 4 (1, 6) cL_tryLay RL 7 1 [(0, 6, 7, 16)]) (a0 : Nat) (a1 : Int32) (a2 : Int32) (M : Mem9) : J9 z N X out 4 0 [(0, .ref a0), (1, .int a1), (2, .int a2)] [] M (0, 0) (f_L_tryLay z a0 a1 a2 M) := by
  refine j_aload_n (pc := 0) C dL_tryLay_0 rfl ?_
  refine j_iload_n (pc := 1) C dL_tryLay_1 rfl ?_
  refine j_iload_n (pc := 2) C dL_tryLay_2 rfl ?_
  refine j_callVh (pc := 3) C dL_tryLay_3 lv_L_68 rfl (Nat.le_of_ble_eq_true rfl) (Nat.le_of_ble_eq_true rfl) (by decide) rfl ⟨Nat.le_refl _, Nat.le_refl _⟩ (fun l hl o ho => sp_X2_set hl ho) (fun v2 M1 => ?_) ?_
  · exact j_ireturn (pc := 6) C rfl dL_tryLay_6 ⟨Nat.zero_le _, Nat.zero_le _⟩
  · intro E9 hE9 M9
    simp only [excs9, List.mem_cons, List.not_mem_nil, or_false] at hE9
    rcases hE9 with rfl | rfl | rfl
    · refine Or.inr ⟨7, ⟨[], ⟨0, 6, 7, 16⟩, [], rfl, (fun y hy => by cases hy), by decide, by decide, w9_184, rfl⟩, fun q9 => ?_⟩
      rw [if_pos rfl]
      refine j_astore_n (pc := 7) C dL_tryLay_7 (Nat.le_of_ble_eq_true rfl) (ls' := [(3, .ref q9), (0, .ref a0), (1, .int a1), (2, .int a2)]) rfl ?_
      refine j_ldc (pc := 8) C dL_tryLay_8 (v := -9999002) w9_274 ?_
      exact j_ireturn (pc := 10) C rfl dL_tryLay_10 ⟨Nat.le_refl _, Nat.le_refl _⟩
    · exact Or.inl (by rw [if_neg (by decide +kernel)])
    · exact Or.inl (by rw [if_neg (by decide +kernel)])
theorem sp_L_tryLay {l : Launch} {z : Sh9} {N : Nv9} {a0 : Nat} {a1 : Int32} {a2 : Int32} {M : Mem9} {o : Out9 × Mem9} (hl : l.stackTraces = false) (h : f_L_tryLay z a0 a1 a2 M = some o) : Sp9 l z N yL_tryLay (Cond.codeWith yL_tryLay cL_tryLay 4 (some .int) [(0, 6, 7, 16)]) 7 [.ref a0, .int a1, .int a2] M (1, 6) o :=
  sp9_ofH (rk := 1) (own := RL) (by decide +kernel) rfl (Or.inr (Or.inl ⟨rfl, rfl⟩)) hl (Nat.le_of_ble_eq_true rfl) (by decide) (fun X C => t_L_tryLay C a0 a1 a2 M) h
def f_L_tryLoad (z : Sh9) (a0 : Nat) (M : Mem9) : Re9 :=
  (bh9 (iv9 z a0 2 (f_X2_load z a0  M)) (fun v2 M1 => (ri9 v2 M1)) (fun E9 M9 => (if E9 = "java/lang/IllegalStateException" then (ri9 (-9999003 : Int32) M9) else none)))
set_option maxRecDepth 20000 in
set_option maxHeartbeats 4000000 in
theorem t_L_tryLoad {z : Sh9} {N : Nv9} {X : Cx9} {out : Out9 × Mem9} (C : OK9 z N X out 2 (1, 6) cL_tryLoad RL 7 1 [(0, 4, 5, 19)]) (a0 : Nat) (M : Mem9) : J9 z N X out 2 0 [(0, .ref a0)] [] M (0, 0) (f_L_tryLoad z a0 M) := by
  refine j_aload_n (pc := 0) C dL_tryLoad_0 rfl ?_
  refine j_callVh (pc := 1) C dL_tryLoad_1 lv_L_38 rfl (Nat.le_of_ble_eq_true rfl) (Nat.le_of_ble_eq_true rfl) (by decide) rfl ⟨Nat.le_refl _, Nat.le_refl _⟩ (fun l hl o ho => sp_X2_load hl ho) (fun v2 M1 => ?_) ?_
  · exact j_ireturn (pc := 4) C rfl dL_tryLoad_4 ⟨Nat.zero_le _, Nat.zero_le _⟩
  · intro E9 hE9 M9
    simp only [excs9, List.mem_cons, List.not_mem_nil, or_false] at hE9
    rcases hE9 with rfl | rfl | rfl
    · exact Or.inl (by rw [if_neg (by decide +kernel)])
    · refine Or.inr ⟨5, ⟨[], ⟨0, 4, 5, 19⟩, [], rfl, (fun y hy => by cases hy), by decide, by decide, w9_185, rfl⟩, fun q9 => ?_⟩
      rw [if_pos rfl]
      refine j_astore_n (pc := 5) C dL_tryLoad_5 (Nat.le_of_ble_eq_true rfl) (ls' := [(1, .ref q9), (0, .ref a0)]) rfl ?_
      refine j_ldc (pc := 6) C dL_tryLoad_6 (v := -9999003) w9_275 ?_
      exact j_ireturn (pc := 8) C rfl dL_tryLoad_8 ⟨Nat.le_refl _, Nat.le_refl _⟩
    · exact Or.inl (by rw [if_neg (by decide +kernel)])
theorem sp_L_tryLoad {l : Launch} {z : Sh9} {N : Nv9} {a0 : Nat} {M : Mem9} {o : Out9 × Mem9} (hl : l.stackTraces = false) (h : f_L_tryLoad z a0 M = some o) : Sp9 l z N yL_tryLoad (Cond.codeWith yL_tryLoad cL_tryLoad 2 (some .int) [(0, 4, 5, 19)]) 7 [.ref a0] M (1, 6) o :=
  sp9_ofH (rk := 1) (own := RL) (by decide +kernel) rfl (Or.inr (Or.inl ⟨rfl, rfl⟩)) hl (Nat.le_of_ble_eq_true rfl) (by decide) (fun X C => t_L_tryLoad C a0 M) h
def f_L_tryMend (z : Sh9) (a0 : Nat) (a1 : Int32) (M : Mem9) : Re9 :=
  (bh9 (iv9 z a0 2 (f_X2_mend z a0 a1 M)) (fun v2 M1 => (ri9 v2 M1)) (fun E9 M9 => (if E9 = "java/lang/IndexOutOfBoundsException" then (ri9 (-9999001 : Int32) M9) else (if E9 = "java/lang/IllegalStateException" then (ri9 (-9999003 : Int32) M9) else none))))
set_option maxRecDepth 20000 in
set_option maxHeartbeats 4000000 in
theorem t_L_tryMend {z : Sh9} {N : Nv9} {X : Cx9} {out : Out9 × Mem9} (C : OK9 z N X out 3 (1, 6) cL_tryMend RL 8 1 [(0, 5, 6, 13), (0, 5, 10, 19)]) (a0 : Nat) (a1 : Int32) (M : Mem9) : J9 z N X out 3 0 [(0, .ref a0), (1, .int a1)] [] M (0, 0) (f_L_tryMend z a0 a1 M) := by
  refine j_aload_n (pc := 0) C dL_tryMend_0 rfl ?_
  refine j_iload_n (pc := 1) C dL_tryMend_1 rfl ?_
  refine j_callVh (pc := 2) C dL_tryMend_2 lv_L_62 rfl (Nat.le_of_ble_eq_true rfl) (Nat.le_of_ble_eq_true rfl) (by decide) rfl ⟨Nat.le_refl _, Nat.le_refl _⟩ (fun l hl o ho => sp_X2_mend hl ho) (fun v2 M1 => ?_) ?_
  · exact j_ireturn (pc := 5) C rfl dL_tryMend_5 ⟨Nat.zero_le _, Nat.zero_le _⟩
  · intro E9 hE9 M9
    simp only [excs9, List.mem_cons, List.not_mem_nil, or_false] at hE9
    rcases hE9 with rfl | rfl | rfl
    · exact Or.inl (by rw [if_neg (by decide +kernel), if_neg (by decide +kernel)])
    · refine Or.inr ⟨10, ⟨[⟨0, 5, 6, 13⟩], ⟨0, 5, 10, 19⟩, [], rfl, (by
          intro y hy
          simp only [List.mem_cons, List.not_mem_nil, or_false] at hy
          rcases hy with rfl
          · exact ⟨by decide, "java/lang/IndexOutOfBoundsException", by decide +kernel, by decide +kernel, w9_454⟩), by decide, by decide, w9_185, rfl⟩, fun q9 => ?_⟩
      rw [if_neg (by decide +kernel), if_pos rfl]
      refine j_astore_n (pc := 10) C dL_tryMend_10 (Nat.le_of_ble_eq_true rfl) (ls' := [(2, .ref q9), (0, .ref a0), (1, .int a1)]) rfl ?_
      refine j_ldc (pc := 11) C dL_tryMend_11 (v := -9999003) w9_275 ?_
      exact j_ireturn (pc := 13) C rfl dL_tryMend_13 ⟨Nat.le_refl _, Nat.le_refl _⟩
    · refine Or.inr ⟨6, ⟨[], ⟨0, 5, 6, 13⟩, [⟨0, 5, 10, 19⟩], rfl, (fun y hy => by cases hy), by decide, by decide, w9_454, rfl⟩, fun q9 => ?_⟩
      rw [if_pos rfl]
      refine j_astore_n (pc := 6) C dL_tryMend_6 (Nat.le_of_ble_eq_true rfl) (ls' := [(2, .ref q9), (0, .ref a0), (1, .int a1)]) rfl ?_
      refine j_ldc (pc := 7) C dL_tryMend_7 (v := -9999001) w9_489 ?_
      exact j_ireturn (pc := 9) C rfl dL_tryMend_9 ⟨Nat.le_refl _, Nat.le_refl _⟩
theorem sp_L_tryMend {l : Launch} {z : Sh9} {N : Nv9} {a0 : Nat} {a1 : Int32} {M : Mem9} {o : Out9 × Mem9} (hl : l.stackTraces = false) (h : f_L_tryMend z a0 a1 M = some o) : Sp9 l z N yL_tryMend (Cond.codeWith yL_tryMend cL_tryMend 3 (some .int) [(0, 5, 6, 13), (0, 5, 10, 19)]) 8 [.ref a0, .int a1] M (1, 6) o :=
  sp9_ofH (rk := 1) (own := RL) (by decide +kernel) rfl (Or.inr (Or.inl ⟨rfl, rfl⟩)) hl (Nat.le_of_ble_eq_true rfl) (by decide) (fun X C => t_L_tryMend C a0 a1 M) h
def f_L_tryRun (z : Sh9) (a0 : Nat) (a1 : Int32) (M : Mem9) : Re9 :=
  (bh9 (iv9 z a0 2 (f_X2_run z a0 a1 M)) (fun v2 M1 => (ri9 v2 M1)) (fun E9 M9 => (if E9 = "java/lang/IllegalArgumentException" then (ri9 (-9999002 : Int32) M9) else none)))
set_option maxRecDepth 20000 in
set_option maxHeartbeats 4000000 in
theorem t_L_tryRun {z : Sh9} {N : Nv9} {X : Cx9} {out : Out9 × Mem9} (C : OK9 z N X out 3 (1, 6) cL_tryRun RL 7 1 [(0, 5, 6, 16)]) (a0 : Nat) (a1 : Int32) (M : Mem9) : J9 z N X out 3 0 [(0, .ref a0), (1, .int a1)] [] M (0, 0) (f_L_tryRun z a0 a1 M) := by
  refine j_aload_n (pc := 0) C dL_tryRun_0 rfl ?_
  refine j_iload_n (pc := 1) C dL_tryRun_1 rfl ?_
  refine j_callVh (pc := 2) C dL_tryRun_2 lv_L_65 rfl (Nat.le_of_ble_eq_true rfl) (Nat.le_of_ble_eq_true rfl) (by decide) rfl ⟨Nat.le_refl _, Nat.le_refl _⟩ (fun l hl o ho => sp_X2_run hl ho) (fun v2 M1 => ?_) ?_
  · exact j_ireturn (pc := 5) C rfl dL_tryRun_5 ⟨Nat.zero_le _, Nat.zero_le _⟩
  · intro E9 hE9 M9
    simp only [excs9, List.mem_cons, List.not_mem_nil, or_false] at hE9
    rcases hE9 with rfl | rfl | rfl
    · refine Or.inr ⟨6, ⟨[], ⟨0, 5, 6, 16⟩, [], rfl, (fun y hy => by cases hy), by decide, by decide, w9_184, rfl⟩, fun q9 => ?_⟩
      rw [if_pos rfl]
      refine j_astore_n (pc := 6) C dL_tryRun_6 (Nat.le_of_ble_eq_true rfl) (ls' := [(2, .ref q9), (0, .ref a0), (1, .int a1)]) rfl ?_
      refine j_ldc (pc := 7) C dL_tryRun_7 (v := -9999002) w9_274 ?_
      exact j_ireturn (pc := 9) C rfl dL_tryRun_9 ⟨Nat.le_refl _, Nat.le_refl _⟩
    · exact Or.inl (by rw [if_neg (by decide +kernel)])
    · exact Or.inl (by rw [if_neg (by decide +kernel)])
theorem sp_L_tryRun {l : Launch} {z : Sh9} {N : Nv9} {a0 : Nat} {a1 : Int32} {M : Mem9} {o : Out9 × Mem9} (hl : l.stackTraces = false) (h : f_L_tryRun z a0 a1 M = some o) : Sp9 l z N yL_tryRun (Cond.codeWith yL_tryRun cL_tryRun 3 (some .int) [(0, 5, 6, 16)]) 7 [.ref a0, .int a1] M (1, 6) o :=
  sp9_ofH (rk := 1) (own := RL) (by decide +kernel) rfl (Or.inr (Or.inl ⟨rfl, rfl⟩)) hl (Nat.le_of_ble_eq_true rfl) (by decide) (fun X C => t_L_tryRun C a0 a1 M) h
def f_L_trySetting (z : Sh9) (a0 : Nat) (a1 : Int32) (M : Mem9) : Re9 :=
  (bh9 (iv9 z a0 2 (f_X2_setting z a0 a1 M)) (fun v2 M1 => (ri9 v2 M1)) (fun E9 M9 => (if E9 = "java/lang/IllegalArgumentException" then (ri9 (-9999002 : Int32) M9) else none)))
set_option maxRecDepth 20000 in
set_option maxHeartbeats 4000000 in
theorem t_L_trySetting {z : Sh9} {N : Nv9} {X : Cx9} {out : Out9 × Mem9} (C : OK9 z N X out 3 (1, 6) cL_trySetting RL 7 1 [(0, 5, 6, 16)]) (a0 : Nat) (a1 : Int32) (M : Mem9) : J9 z N X out 3 0 [(0, .ref a0), (1, .int a1)] [] M (0, 0) (f_L_trySetting z a0 a1 M) := by
  refine j_aload_n (pc := 0) C dL_trySetting_0 rfl ?_
  refine j_iload_n (pc := 1) C dL_trySetting_1 rfl ?_
  refine j_callVh (pc := 2) C dL_trySetting_2 lv_L_56 rfl (Nat.le_of_ble_eq_true rfl) (Nat.le_of_ble_eq_true rfl) (by decide) rfl ⟨Nat.le_refl _, Nat.le_refl _⟩ (fun l hl o ho => sp_X2_setting hl ho) (fun v2 M1 => ?_) ?_
  · exact j_ireturn (pc := 5) C rfl dL_trySetting_5 ⟨Nat.zero_le _, Nat.zero_le _⟩
  · intro E9 hE9 M9
    simp only [excs9, List.mem_cons, List.not_mem_nil, or_false] at hE9
    rcases hE9 with rfl | rfl | rfl
    · refine Or.inr ⟨6, ⟨[], ⟨0, 5, 6, 16⟩, [], rfl, (fun y hy => by cases hy), by decide, by decide, w9_184, rfl⟩, fun q9 => ?_⟩
      rw [if_pos rfl]
      refine j_astore_n (pc := 6) C dL_trySetting_6 (Nat.le_of_ble_eq_true rfl) (ls' := [(2, .ref q9), (0, .ref a0), (1, .int a1)]) rfl ?_
      refine j_ldc (pc := 7) C dL_trySetting_7 (v := -9999002) w9_274 ?_
      exact j_ireturn (pc := 9) C rfl dL_trySetting_9 ⟨Nat.le_refl _, Nat.le_refl _⟩
    · exact Or.inl (by rw [if_neg (by decide +kernel)])
    · exact Or.inl (by rw [if_neg (by decide +kernel)])
theorem sp_L_trySetting {l : Launch} {z : Sh9} {N : Nv9} {a0 : Nat} {a1 : Int32} {M : Mem9} {o : Out9 × Mem9} (hl : l.stackTraces = false) (h : f_L_trySetting z a0 a1 M = some o) : Sp9 l z N yL_trySetting (Cond.codeWith yL_trySetting cL_trySetting 3 (some .int) [(0, 5, 6, 16)]) 7 [.ref a0, .int a1] M (1, 6) o :=
  sp9_ofH (rk := 1) (own := RL) (by decide +kernel) rfl (Or.inr (Or.inl ⟨rfl, rfl⟩)) hl (Nat.le_of_ble_eq_true rfl) (by decide) (fun X C => t_L_trySetting C a0 a1 M) h
def f_L_tryThrough (z : Sh9) (a0 : Nat) (a1 : Int32) (a2 : Int32) (M : Mem9) : Re9 :=
  (bh9 (iv9 z a0 2 (f_X2_throughIn z a0 a1 a2 M)) (fun v2 M1 => (ri9 v2 M1)) (fun E9 M9 => (if E9 = "java/lang/IndexOutOfBoundsException" then (ri9 (-9999001 : Int32) M9) else none)))
set_option maxRecDepth 20000 in
set_option maxHeartbeats 4000000 in
theorem t_L_tryThrough {z : Sh9} {N : Nv9} {X : Cx9} {out : Out9 × Mem9} (C : OK9 z N X out 4 (1, 6) cL_tryThrough RL 9 1 [(0, 6, 7, 13)]) (a0 : Nat) (a1 : Int32) (a2 : Int32) (M : Mem9) : J9 z N X out 4 0 [(0, .ref a0), (1, .int a1), (2, .int a2)] [] M (0, 0) (f_L_tryThrough z a0 a1 a2 M) := by
  refine j_aload_n (pc := 0) C dL_tryThrough_0 rfl ?_
  refine j_iload_n (pc := 1) C dL_tryThrough_1 rfl ?_
  refine j_iload_n (pc := 2) C dL_tryThrough_2 rfl ?_
  refine j_callVh (pc := 3) C dL_tryThrough_3 lv_L_77 rfl (Nat.le_of_ble_eq_true rfl) (Nat.le_of_ble_eq_true rfl) (by decide) rfl ⟨Nat.le_refl _, Nat.le_refl _⟩ (fun l hl o ho => sp_X2_throughIn hl ho) (fun v2 M1 => ?_) ?_
  · exact j_ireturn (pc := 6) C rfl dL_tryThrough_6 ⟨Nat.zero_le _, Nat.zero_le _⟩
  · intro E9 hE9 M9
    simp only [excs9, List.mem_cons, List.not_mem_nil, or_false] at hE9
    rcases hE9 with rfl | rfl | rfl
    · exact Or.inl (by rw [if_neg (by decide +kernel)])
    · exact Or.inl (by rw [if_neg (by decide +kernel)])
    · refine Or.inr ⟨7, ⟨[], ⟨0, 6, 7, 13⟩, [], rfl, (fun y hy => by cases hy), by decide, by decide, w9_454, rfl⟩, fun q9 => ?_⟩
      rw [if_pos rfl]
      refine j_astore_n (pc := 7) C dL_tryThrough_7 (Nat.le_of_ble_eq_true rfl) (ls' := [(3, .ref q9), (0, .ref a0), (1, .int a1), (2, .int a2)]) rfl ?_
      refine j_ldc (pc := 8) C dL_tryThrough_8 (v := -9999001) w9_489 ?_
      exact j_ireturn (pc := 10) C rfl dL_tryThrough_10 ⟨Nat.le_refl _, Nat.le_refl _⟩
theorem sp_L_tryThrough {l : Launch} {z : Sh9} {N : Nv9} {a0 : Nat} {a1 : Int32} {a2 : Int32} {M : Mem9} {o : Out9 × Mem9} (hl : l.stackTraces = false) (h : f_L_tryThrough z a0 a1 a2 M = some o) : Sp9 l z N yL_tryThrough (Cond.codeWith yL_tryThrough cL_tryThrough 4 (some .int) [(0, 6, 7, 13)]) 9 [.ref a0, .int a1, .int a2] M (1, 6) o :=
  sp9_ofH (rk := 1) (own := RL) (by decide +kernel) rfl (Or.inr (Or.inl ⟨rfl, rfl⟩)) hl (Nat.le_of_ble_eq_true rfl) (by decide) (fun X C => t_L_tryThrough C a0 a1 a2 M) h
def f_L_tryUndo (z : Sh9) (a0 : Nat) (M : Mem9) : Re9 :=
  (bh9 (iv9 z a0 2 (f_X2_undo z a0  M)) (fun v2 M1 => (ri9 v2 M1)) (fun E9 M9 => (if E9 = "java/lang/IllegalStateException" then (ri9 (-9999003 : Int32) M9) else none)))
set_option maxRecDepth 20000 in
set_option maxHeartbeats 4000000 in
theorem t_L_tryUndo {z : Sh9} {N : Nv9} {X : Cx9} {out : Out9 × Mem9} (C : OK9 z N X out 2 (1, 6) cL_tryUndo RL 7 1 [(0, 4, 5, 19)]) (a0 : Nat) (M : Mem9) : J9 z N X out 2 0 [(0, .ref a0)] [] M (0, 0) (f_L_tryUndo z a0 M) := by
  refine j_aload_n (pc := 0) C dL_tryUndo_0 rfl ?_
  refine j_callVh (pc := 1) C dL_tryUndo_1 lv_L_71 rfl (Nat.le_of_ble_eq_true rfl) (Nat.le_of_ble_eq_true rfl) (by decide) rfl ⟨Nat.le_refl _, Nat.le_refl _⟩ (fun l hl o ho => sp_X2_undo hl ho) (fun v2 M1 => ?_) ?_
  · exact j_ireturn (pc := 4) C rfl dL_tryUndo_4 ⟨Nat.zero_le _, Nat.zero_le _⟩
  · intro E9 hE9 M9
    simp only [excs9, List.mem_cons, List.not_mem_nil, or_false] at hE9
    rcases hE9 with rfl | rfl | rfl
    · exact Or.inl (by rw [if_neg (by decide +kernel)])
    · refine Or.inr ⟨5, ⟨[], ⟨0, 4, 5, 19⟩, [], rfl, (fun y hy => by cases hy), by decide, by decide, w9_185, rfl⟩, fun q9 => ?_⟩
      rw [if_pos rfl]
      refine j_astore_n (pc := 5) C dL_tryUndo_5 (Nat.le_of_ble_eq_true rfl) (ls' := [(1, .ref q9), (0, .ref a0)]) rfl ?_
      refine j_ldc (pc := 6) C dL_tryUndo_6 (v := -9999003) w9_275 ?_
      exact j_ireturn (pc := 8) C rfl dL_tryUndo_8 ⟨Nat.le_refl _, Nat.le_refl _⟩
    · exact Or.inl (by rw [if_neg (by decide +kernel)])
theorem sp_L_tryUndo {l : Launch} {z : Sh9} {N : Nv9} {a0 : Nat} {M : Mem9} {o : Out9 × Mem9} (hl : l.stackTraces = false) (h : f_L_tryUndo z a0 M = some o) : Sp9 l z N yL_tryUndo (Cond.codeWith yL_tryUndo cL_tryUndo 2 (some .int) [(0, 4, 5, 19)]) 7 [.ref a0] M (1, 6) o :=
  sp9_ofH (rk := 1) (own := RL) (by decide +kernel) rfl (Or.inr (Or.inl ⟨rfl, rfl⟩)) hl (Nat.le_of_ble_eq_true rfl) (by decide) (fun X C => t_L_tryUndo C a0 M) h
def f_L_tryVehicle (z : Sh9) (a0 : Nat) (a1 : Int32) (a2 : Int32) (a3 : Int32) (M : Mem9) : Re9 :=
  (bh9 (iv9 z a0 2 (f_X2_vehicle z a0 a1 a2 a3 M)) (fun v2 M1 => (ri9 v2 M1)) (fun E9 M9 => (if E9 = "java/lang/IndexOutOfBoundsException" then (ri9 (-9999001 : Int32) M9) else (if E9 = "java/lang/IllegalArgumentException" then (ri9 (-9999002 : Int32) M9) else none))))
set_option maxRecDepth 20000 in
set_option maxHeartbeats 4000000 in
theorem t_L_tryVehicle {z : Sh9} {N : Nv9} {X : Cx9} {out : Out9 × Mem9} (C : OK9 z N X out 5 (1, 6) cL_tryVehicle RL 9 1 [(0, 7, 8, 13), (0, 7, 13, 16)]) (a0 : Nat) (a1 : Int32) (a2 : Int32) (a3 : Int32) (M : Mem9) : J9 z N X out 5 0 [(0, .ref a0), (1, .int a1), (2, .int a2), (3, .int a3)] [] M (0, 0) (f_L_tryVehicle z a0 a1 a2 a3 M) := by
  refine j_aload_n (pc := 0) C dL_tryVehicle_0 rfl ?_
  refine j_iload_n (pc := 1) C dL_tryVehicle_1 rfl ?_
  refine j_iload_n (pc := 2) C dL_tryVehicle_2 rfl ?_
  refine j_iload_n (pc := 3) C dL_tryVehicle_3 rfl ?_
  refine j_callVh (pc := 4) C dL_tryVehicle_4 lv_L_49 rfl (Nat.le_of_ble_eq_true rfl) (Nat.le_of_ble_eq_true rfl) (by decide) rfl ⟨Nat.le_refl _, Nat.le_refl _⟩ (fun l hl o ho => sp_X2_vehicle hl ho) (fun v2 M1 => ?_) ?_
  · exact j_ireturn (pc := 7) C rfl dL_tryVehicle_7 ⟨Nat.zero_le _, Nat.zero_le _⟩
  · intro E9 hE9 M9
    simp only [excs9, List.mem_cons, List.not_mem_nil, or_false] at hE9
    rcases hE9 with rfl | rfl | rfl
    · refine Or.inr ⟨13, ⟨[⟨0, 7, 8, 13⟩], ⟨0, 7, 13, 16⟩, [], rfl, (by
          intro y hy
          simp only [List.mem_cons, List.not_mem_nil, or_false] at hy
          rcases hy with rfl
          · exact ⟨by decide, "java/lang/IndexOutOfBoundsException", by decide +kernel, by decide +kernel, w9_454⟩), by decide, by decide, w9_184, rfl⟩, fun q9 => ?_⟩
      rw [if_neg (by decide +kernel), if_pos rfl]
      refine j_astore (pc := 13) C dL_tryVehicle_13 (Nat.le_of_ble_eq_true rfl) (ls' := [(4, .ref q9), (0, .ref a0), (1, .int a1), (2, .int a2), (3, .int a3)]) rfl ?_
      refine j_ldc (pc := 15) C dL_tryVehicle_15 (v := -9999002) w9_274 ?_
      exact j_ireturn (pc := 17) C rfl dL_tryVehicle_17 ⟨Nat.le_refl _, Nat.le_refl _⟩
    · exact Or.inl (by rw [if_neg (by decide +kernel), if_neg (by decide +kernel)])
    · refine Or.inr ⟨8, ⟨[], ⟨0, 7, 8, 13⟩, [⟨0, 7, 13, 16⟩], rfl, (fun y hy => by cases hy), by decide, by decide, w9_454, rfl⟩, fun q9 => ?_⟩
      rw [if_pos rfl]
      refine j_astore (pc := 8) C dL_tryVehicle_8 (Nat.le_of_ble_eq_true rfl) (ls' := [(4, .ref q9), (0, .ref a0), (1, .int a1), (2, .int a2), (3, .int a3)]) rfl ?_
      refine j_ldc (pc := 10) C dL_tryVehicle_10 (v := -9999001) w9_489 ?_
      exact j_ireturn (pc := 12) C rfl dL_tryVehicle_12 ⟨Nat.le_refl _, Nat.le_refl _⟩
theorem sp_L_tryVehicle {l : Launch} {z : Sh9} {N : Nv9} {a0 : Nat} {a1 : Int32} {a2 : Int32} {a3 : Int32} {M : Mem9} {o : Out9 × Mem9} (hl : l.stackTraces = false) (h : f_L_tryVehicle z a0 a1 a2 a3 M = some o) : Sp9 l z N yL_tryVehicle (Cond.codeWith yL_tryVehicle cL_tryVehicle 5 (some .int) [(0, 7, 8, 13), (0, 7, 13, 16)]) 9 [.ref a0, .int a1, .int a2, .int a3] M (1, 6) o :=
  sp9_ofH (rk := 1) (own := RL) (by decide +kernel) rfl (Or.inr (Or.inl ⟨rfl, rfl⟩)) hl (Nat.le_of_ble_eq_true rfl) (by decide) (fun X C => t_L_tryVehicle C a0 a1 a2 a3 M) h
def f_L_tryWhy (z : Sh9) (a0 : Nat) (a1 : Int32) (M : Mem9) : Re9 :=
  (bh9 (iv9 z a0 2 (f_X2_why z a0 a1 M)) (fun v2 M1 => (ri9 v2 M1)) (fun E9 M9 => (if E9 = "java/lang/IndexOutOfBoundsException" then (ri9 (-9999001 : Int32) M9) else none)))
set_option maxRecDepth 20000 in
set_option maxHeartbeats 4000000 in
theorem t_L_tryWhy {z : Sh9} {N : Nv9} {X : Cx9} {out : Out9 × Mem9} (C : OK9 z N X out 3 (1, 6) cL_tryWhy RL 8 1 [(0, 5, 6, 13)]) (a0 : Nat) (a1 : Int32) (M : Mem9) : J9 z N X out 3 0 [(0, .ref a0), (1, .int a1)] [] M (0, 0) (f_L_tryWhy z a0 a1 M) := by
  refine j_aload_n (pc := 0) C dL_tryWhy_0 rfl ?_
  refine j_iload_n (pc := 1) C dL_tryWhy_1 rfl ?_
  refine j_callVh (pc := 2) C dL_tryWhy_2 lv_L_53 rfl (Nat.le_of_ble_eq_true rfl) (Nat.le_of_ble_eq_true rfl) (by decide) rfl ⟨Nat.le_refl _, Nat.le_refl _⟩ (fun l hl o ho => sp_X2_why hl ho) (fun v2 M1 => ?_) ?_
  · exact j_ireturn (pc := 5) C rfl dL_tryWhy_5 ⟨Nat.zero_le _, Nat.zero_le _⟩
  · intro E9 hE9 M9
    simp only [excs9, List.mem_cons, List.not_mem_nil, or_false] at hE9
    rcases hE9 with rfl | rfl | rfl
    · exact Or.inl (by rw [if_neg (by decide +kernel)])
    · exact Or.inl (by rw [if_neg (by decide +kernel)])
    · refine Or.inr ⟨6, ⟨[], ⟨0, 5, 6, 13⟩, [], rfl, (fun y hy => by cases hy), by decide, by decide, w9_454, rfl⟩, fun q9 => ?_⟩
      rw [if_pos rfl]
      refine j_astore_n (pc := 6) C dL_tryWhy_6 (Nat.le_of_ble_eq_true rfl) (ls' := [(2, .ref q9), (0, .ref a0), (1, .int a1)]) rfl ?_
      refine j_ldc (pc := 7) C dL_tryWhy_7 (v := -9999001) w9_489 ?_
      exact j_ireturn (pc := 9) C rfl dL_tryWhy_9 ⟨Nat.le_refl _, Nat.le_refl _⟩
theorem sp_L_tryWhy {l : Launch} {z : Sh9} {N : Nv9} {a0 : Nat} {a1 : Int32} {M : Mem9} {o : Out9 × Mem9} (hl : l.stackTraces = false) (h : f_L_tryWhy z a0 a1 M = some o) : Sp9 l z N yL_tryWhy (Cond.codeWith yL_tryWhy cL_tryWhy 3 (some .int) [(0, 5, 6, 13)]) 8 [.ref a0, .int a1] M (1, 6) o :=
  sp9_ofH (rk := 1) (own := RL) (by decide +kernel) rfl (Or.inr (Or.inl ⟨rfl, rfl⟩)) hl (Nat.le_of_ble_eq_true rfl) (by decide) (fun X C => t_L_tryWhy C a0 a1 M) h
def f_L_comes (z : Sh9) (a0 : Nat) (a1 : Int32) (a2 : Int32) (a3 : Int32) (a4 : Int32) (M : Mem9) : Re9 :=
  (bh9 (iv9 z a0 2 (f_X2_arrive z a0 a1 a2 a3 a4 M)) (fun v2 M1 => (ri9 v2 M1)) (fun E9 M9 => (if E9 = "java/lang/IndexOutOfBoundsException" then (ri9 (-9999001 : Int32) M9) else (if E9 = "java/lang/IllegalArgumentException" then (ri9 (-9999002 : Int32) M9) else (if E9 = "java/lang/IllegalStateException" then (ri9 (-9999003 : Int32) M9) else none)))))
set_option maxRecDepth 20000 in
set_option maxHeartbeats 4000000 in
theorem t_L_comes {z : Sh9} {N : Nv9} {X : Cx9} {out : Out9 × Mem9} (C : OK9 z N X out 6 (1, 6) cL_comes RL 8 1 [(0, 9, 10, 13), (0, 9, 15, 16), (0, 9, 20, 19)]) (a0 : Nat) (a1 : Int32) (a2 : Int32) (a3 : Int32) (a4 : Int32) (M : Mem9) : J9 z N X out 6 0 [(0, .ref a0), (1, .int a1), (2, .int a2), (3, .int a3), (4, .int a4)] [] M (0, 0) (f_L_comes z a0 a1 a2 a3 a4 M) := by
  refine j_aload_n (pc := 0) C dL_comes_0 rfl ?_
  refine j_iload_n (pc := 1) C dL_comes_1 rfl ?_
  refine j_iload_n (pc := 2) C dL_comes_2 rfl ?_
  refine j_iload_n (pc := 3) C dL_comes_3 rfl ?_
  refine j_iload (pc := 4) C dL_comes_4 rfl ?_
  refine j_callVh (pc := 6) C dL_comes_6 lv_L_7 rfl (Nat.le_of_ble_eq_true rfl) (Nat.le_of_ble_eq_true rfl) (by decide) rfl ⟨Nat.le_refl _, Nat.le_refl _⟩ (fun l hl o ho => sp_X2_arrive hl ho) (fun v2 M1 => ?_) ?_
  · exact j_ireturn (pc := 9) C rfl dL_comes_9 ⟨Nat.zero_le _, Nat.zero_le _⟩
  · intro E9 hE9 M9
    simp only [excs9, List.mem_cons, List.not_mem_nil, or_false] at hE9
    rcases hE9 with rfl | rfl | rfl
    · refine Or.inr ⟨15, ⟨[⟨0, 9, 10, 13⟩], ⟨0, 9, 15, 16⟩, [⟨0, 9, 20, 19⟩], rfl, (by
          intro y hy
          simp only [List.mem_cons, List.not_mem_nil, or_false] at hy
          rcases hy with rfl
          · exact ⟨by decide, "java/lang/IndexOutOfBoundsException", by decide +kernel, by decide +kernel, w9_454⟩), by decide, by decide, w9_184, rfl⟩, fun q9 => ?_⟩
      rw [if_neg (by decide +kernel), if_pos rfl]
      refine j_astore (pc := 15) C dL_comes_15 (Nat.le_of_ble_eq_true rfl) (ls' := [(5, .ref q9), (0, .ref a0), (1, .int a1), (2, .int a2), (3, .int a3), (4, .int a4)]) rfl ?_
      refine j_ldc (pc := 17) C dL_comes_17 (v := -9999002) w9_274 ?_
      exact j_ireturn (pc := 19) C rfl dL_comes_19 ⟨Nat.le_refl _, Nat.le_refl _⟩
    · refine Or.inr ⟨20, ⟨[⟨0, 9, 10, 13⟩, ⟨0, 9, 15, 16⟩], ⟨0, 9, 20, 19⟩, [], rfl, (by
          intro y hy
          simp only [List.mem_cons, List.not_mem_nil, or_false] at hy
          rcases hy with rfl | rfl
          · exact ⟨by decide, "java/lang/IndexOutOfBoundsException", by decide +kernel, by decide +kernel, w9_454⟩
          · exact ⟨by decide, "java/lang/IllegalArgumentException", by decide +kernel, by decide +kernel, w9_184⟩), by decide, by decide, w9_185, rfl⟩, fun q9 => ?_⟩
      rw [if_neg (by decide +kernel), if_neg (by decide +kernel), if_pos rfl]
      refine j_astore (pc := 20) C dL_comes_20 (Nat.le_of_ble_eq_true rfl) (ls' := [(5, .ref q9), (0, .ref a0), (1, .int a1), (2, .int a2), (3, .int a3), (4, .int a4)]) rfl ?_
      refine j_ldc (pc := 22) C dL_comes_22 (v := -9999003) w9_275 ?_
      exact j_ireturn (pc := 24) C rfl dL_comes_24 ⟨Nat.le_refl _, Nat.le_refl _⟩
    · refine Or.inr ⟨10, ⟨[], ⟨0, 9, 10, 13⟩, [⟨0, 9, 15, 16⟩, ⟨0, 9, 20, 19⟩], rfl, (fun y hy => by cases hy), by decide, by decide, w9_454, rfl⟩, fun q9 => ?_⟩
      rw [if_pos rfl]
      refine j_astore (pc := 10) C dL_comes_10 (Nat.le_of_ble_eq_true rfl) (ls' := [(5, .ref q9), (0, .ref a0), (1, .int a1), (2, .int a2), (3, .int a3), (4, .int a4)]) rfl ?_
      refine j_ldc (pc := 12) C dL_comes_12 (v := -9999001) w9_489 ?_
      exact j_ireturn (pc := 14) C rfl dL_comes_14 ⟨Nat.le_refl _, Nat.le_refl _⟩
theorem sp_L_comes {l : Launch} {z : Sh9} {N : Nv9} {a0 : Nat} {a1 : Int32} {a2 : Int32} {a3 : Int32} {a4 : Int32} {M : Mem9} {o : Out9 × Mem9} (hl : l.stackTraces = false) (h : f_L_comes z a0 a1 a2 a3 a4 M = some o) : Sp9 l z N yL_comes (Cond.codeWith yL_comes cL_comes 6 (some .int) [(0, 9, 10, 13), (0, 9, 15, 16), (0, 9, 20, 19)]) 8 [.ref a0, .int a1, .int a2, .int a3, .int a4] M (1, 6) o :=
  sp9_ofH (rk := 1) (own := RL) (by decide +kernel) rfl (Or.inr (Or.inl ⟨rfl, rfl⟩)) hl (Nat.le_of_ble_eq_true rfl) (by decide) (fun X C => t_L_comes C a0 a1 a2 a3 a4 M) h
def f_L_loops (z : Sh9) (a0 : Nat) (a1 : Int32) (a2 : Int32) (M : Mem9) : Re9 :=
  (bh9 (iv9 z a0 2 (f_X2_loop z a0 a1 a2 M)) (fun v2 M1 => (ri9 v2 M1)) (fun E9 M9 => (if E9 = "java/lang/IndexOutOfBoundsException" then (ri9 (-9999001 : Int32) M9) else none)))
set_option maxRecDepth 20000 in
set_option maxHeartbeats 4000000 in
theorem t_L_loops {z : Sh9} {N : Nv9} {X : Cx9} {out : Out9 × Mem9} (C : OK9 z N X out 4 (1, 6) cL_loops RL 8 1 [(0, 6, 7, 13)]) (a0 : Nat) (a1 : Int32) (a2 : Int32) (M : Mem9) : J9 z N X out 4 0 [(0, .ref a0), (1, .int a1), (2, .int a2)] [] M (0, 0) (f_L_loops z a0 a1 a2 M) := by
  refine j_aload_n (pc := 0) C dL_loops_0 rfl ?_
  refine j_iload_n (pc := 1) C dL_loops_1 rfl ?_
  refine j_iload_n (pc := 2) C dL_loops_2 rfl ?_
  refine j_callVh (pc := 3) C dL_loops_3 lv_L_22 rfl (Nat.le_of_ble_eq_true rfl) (Nat.le_of_ble_eq_true rfl) (by decide) rfl ⟨Nat.le_refl _, Nat.le_refl _⟩ (fun l hl o ho => sp_X2_loop hl ho) (fun v2 M1 => ?_) ?_
  · exact j_ireturn (pc := 6) C rfl dL_loops_6 ⟨Nat.zero_le _, Nat.zero_le _⟩
  · intro E9 hE9 M9
    simp only [excs9, List.mem_cons, List.not_mem_nil, or_false] at hE9
    rcases hE9 with rfl | rfl | rfl
    · exact Or.inl (by rw [if_neg (by decide +kernel)])
    · exact Or.inl (by rw [if_neg (by decide +kernel)])
    · refine Or.inr ⟨7, ⟨[], ⟨0, 6, 7, 13⟩, [], rfl, (fun y hy => by cases hy), by decide, by decide, w9_454, rfl⟩, fun q9 => ?_⟩
      rw [if_pos rfl]
      refine j_astore_n (pc := 7) C dL_loops_7 (Nat.le_of_ble_eq_true rfl) (ls' := [(3, .ref q9), (0, .ref a0), (1, .int a1), (2, .int a2)]) rfl ?_
      refine j_ldc (pc := 8) C dL_loops_8 (v := -9999001) w9_489 ?_
      exact j_ireturn (pc := 10) C rfl dL_loops_10 ⟨Nat.le_refl _, Nat.le_refl _⟩
theorem sp_L_loops {l : Launch} {z : Sh9} {N : Nv9} {a0 : Nat} {a1 : Int32} {a2 : Int32} {M : Mem9} {o : Out9 × Mem9} (hl : l.stackTraces = false) (h : f_L_loops z a0 a1 a2 M = some o) : Sp9 l z N yL_loops (Cond.codeWith yL_loops cL_loops 4 (some .int) [(0, 6, 7, 13)]) 8 [.ref a0, .int a1, .int a2] M (1, 6) o :=
  sp9_ofH (rk := 1) (own := RL) (by decide +kernel) rfl (Or.inr (Or.inl ⟨rfl, rfl⟩)) hl (Nat.le_of_ble_eq_true rfl) (by decide) (fun X C => t_L_loops C a0 a1 a2 M) h
def f_L_doSimulate (z : Sh9) (a0 : Nat) (a1 : Int64) (a2 : Int32) (M : Mem9) : Re9 :=
  (bh9 (iv9 z a0 2 (f_X2_simulate z a0 a1 a2 M)) (fun v2 M1 => (ri9 v2 M1)) (fun E9 M9 => (if E9 = "java/lang/IllegalArgumentException" then (ri9 (-9999002 : Int32) M9) else none)))
set_option maxRecDepth 20000 in
set_option maxHeartbeats 4000000 in
theorem t_L_doSimulate {z : Sh9} {N : Nv9} {X : Cx9} {out : Out9 × Mem9} (C : OK9 z N X out 5 (1, 6) cL_doSimulate RL 7 1 [(0, 6, 7, 16)]) (a0 : Nat) (a1 : Int64) (a2 : Int32) (M : Mem9) : J9 z N X out 5 0 [(0, .ref a0), (1, .long a1), (3, .int a2)] [] M (0, 0) (f_L_doSimulate z a0 a1 a2 M) := by
  refine j_aload_n (pc := 0) C dL_doSimulate_0 rfl ?_
  refine j_lload_n (pc := 1) C dL_doSimulate_1 rfl ?_
  refine j_iload_n (pc := 2) C dL_doSimulate_2 rfl ?_
  refine j_callVh (pc := 3) C dL_doSimulate_3 lv_L_30 rfl (Nat.le_of_ble_eq_true rfl) (Nat.le_of_ble_eq_true rfl) (by decide) rfl ⟨Nat.le_refl _, Nat.le_refl _⟩ (fun l hl o ho => sp_X2_simulate hl ho) (fun v2 M1 => ?_) ?_
  · exact j_ireturn (pc := 6) C rfl dL_doSimulate_6 ⟨Nat.zero_le _, Nat.zero_le _⟩
  · intro E9 hE9 M9
    simp only [excs9, List.mem_cons, List.not_mem_nil, or_false] at hE9
    rcases hE9 with rfl | rfl | rfl
    · refine Or.inr ⟨7, ⟨[], ⟨0, 6, 7, 16⟩, [], rfl, (fun y hy => by cases hy), by decide, by decide, w9_184, rfl⟩, fun q9 => ?_⟩
      rw [if_pos rfl]
      refine j_astore (pc := 7) C dL_doSimulate_7 (Nat.le_of_ble_eq_true rfl) (ls' := [(4, .ref q9), (0, .ref a0), (1, .long a1), (3, .int a2)]) rfl ?_
      refine j_ldc (pc := 9) C dL_doSimulate_9 (v := -9999002) w9_274 ?_
      exact j_ireturn (pc := 11) C rfl dL_doSimulate_11 ⟨Nat.le_refl _, Nat.le_refl _⟩
    · exact Or.inl (by rw [if_neg (by decide +kernel)])
    · exact Or.inl (by rw [if_neg (by decide +kernel)])
theorem sp_L_doSimulate {l : Launch} {z : Sh9} {N : Nv9} {a0 : Nat} {a1 : Int64} {a2 : Int32} {M : Mem9} {o : Out9 × Mem9} (hl : l.stackTraces = false) (h : f_L_doSimulate z a0 a1 a2 M = some o) : Sp9 l z N yL_doSimulate (Cond.codeWith yL_doSimulate cL_doSimulate 5 (some .int) [(0, 6, 7, 16)]) 7 [.ref a0, .long a1, .int a2] M (1, 6) o :=
  sp9_ofH (rk := 1) (own := RL) (by decide +kernel) rfl (Or.inr (Or.inl ⟨rfl, rfl⟩)) hl (Nat.le_of_ble_eq_true rfl) (by decide) (fun X C => t_L_doSimulate C a0 a1 a2 M) h
def f_L_doScript (z : Sh9) (a0 : Nat) (a1 : Int32) (a2 : Int64) (M : Mem9) : Re9 :=
  (bh9 (iv9 z a0 2 (f_X2_runScript z a0 a1 a2 M)) (fun v2 M1 => (ri9 v2 M1)) (fun E9 M9 => (if E9 = "java/lang/IllegalArgumentException" then (ri9 (-9999002 : Int32) M9) else none)))
set_option maxRecDepth 20000 in
set_option maxHeartbeats 4000000 in
theorem t_L_doScript {z : Sh9} {N : Nv9} {X : Cx9} {out : Out9 × Mem9} (C : OK9 z N X out 5 (1, 6) cL_doScript RL 7 1 [(0, 6, 7, 16)]) (a0 : Nat) (a1 : Int32) (a2 : Int64) (M : Mem9) : J9 z N X out 5 0 [(0, .ref a0), (1, .int a1), (2, .long a2)] [] M (0, 0) (f_L_doScript z a0 a1 a2 M) := by
  refine j_aload_n (pc := 0) C dL_doScript_0 rfl ?_
  refine j_iload_n (pc := 1) C dL_doScript_1 rfl ?_
  refine j_lload_n (pc := 2) C dL_doScript_2 rfl ?_
  refine j_callVh (pc := 3) C dL_doScript_3 lv_L_26 rfl (Nat.le_of_ble_eq_true rfl) (Nat.le_of_ble_eq_true rfl) (by decide) rfl ⟨Nat.le_refl _, Nat.le_refl _⟩ (fun l hl o ho => sp_X2_runScript hl ho) (fun v2 M1 => ?_) ?_
  · exact j_ireturn (pc := 6) C rfl dL_doScript_6 ⟨Nat.zero_le _, Nat.zero_le _⟩
  · intro E9 hE9 M9
    simp only [excs9, List.mem_cons, List.not_mem_nil, or_false] at hE9
    rcases hE9 with rfl | rfl | rfl
    · refine Or.inr ⟨7, ⟨[], ⟨0, 6, 7, 16⟩, [], rfl, (fun y hy => by cases hy), by decide, by decide, w9_184, rfl⟩, fun q9 => ?_⟩
      rw [if_pos rfl]
      refine j_astore (pc := 7) C dL_doScript_7 (Nat.le_of_ble_eq_true rfl) (ls' := [(4, .ref q9), (0, .ref a0), (1, .int a1), (2, .long a2)]) rfl ?_
      refine j_ldc (pc := 9) C dL_doScript_9 (v := -9999002) w9_274 ?_
      exact j_ireturn (pc := 11) C rfl dL_doScript_11 ⟨Nat.le_refl _, Nat.le_refl _⟩
    · exact Or.inl (by rw [if_neg (by decide +kernel)])
    · exact Or.inl (by rw [if_neg (by decide +kernel)])
theorem sp_L_doScript {l : Launch} {z : Sh9} {N : Nv9} {a0 : Nat} {a1 : Int32} {a2 : Int64} {M : Mem9} {o : Out9 × Mem9} (hl : l.stackTraces = false) (h : f_L_doScript z a0 a1 a2 M = some o) : Sp9 l z N yL_doScript (Cond.codeWith yL_doScript cL_doScript 5 (some .int) [(0, 6, 7, 16)]) 7 [.ref a0, .int a1, .long a2] M (1, 6) o :=
  sp9_ofH (rk := 1) (own := RL) (by decide +kernel) rfl (Or.inr (Or.inl ⟨rfl, rfl⟩)) hl (Nat.le_of_ble_eq_true rfl) (by decide) (fun X C => t_L_doScript C a0 a1 a2 M) h
