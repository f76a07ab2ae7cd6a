section SB
variable {z : Sh9} {M M' M1 M2 : Mem9} {b l k w n A B : Nat} {Q Q' : Nat → Int32} {y u : Int32}
/-! what the class answers, of an object whose present gate is the row Q -/
theorem kx_about (hz : HZ8 z b) (h : GR8 M (b + 2) Q B) (hw : w ≤ 9) : f_X2_about z b (nI w) M = some (.inl (some (.int (aw8 Q w))), M) := by
  unfold f_X2_about
  rw [if_neg (nI_pos (by omega)), if_pos (show nI w ≤ 9 from nI_le (b := 9) hw (by decide))]
  unfold aw8
  by_cases h0 : w = 0
  · subst h0
    rw [if_pos (by decide), hz_rP hz, sb_k, gf_k (hz_P hz).1, sb_k, h.2.2.1]
    rfl
  · rw [if_neg (nI_ne0 (by omega) (by omega))]
    by_cases h1 : w = 1
    · subst h1
      rw [if_pos (by decide), hz_rP hz, sb_k, gf_k (hz_P hz).1, sb_k, h.1]
      rfl
    · rw [if_neg (show ¬ nI w = 1 from fun e => h1 ((nI_eq (b := 1) (by omega) (by omega)).mp e)), hz_rP hz, sb_k, iv_k (hz_P hz).1, x0_tot (hz_P hz) h (by omega) hw, bi_k, if_neg (by omega)]
      rfl
theorem kx_noabout (hy : ¬ (0 ≤ y.toInt ∧ y.toInt ≤ 9)) : f_X2_about z b y M = some (.inr "java/lang/IllegalArgumentException", M) := by
  unfold f_X2_about
  by_cases h1 : y < 0
  · rw [if_pos h1]
    rfl
  · rw [if_neg h1, if_neg (by rw [i32_lt, i32_0] at h1; rw [i32_le, show (9 : Int32).toInt = 9 by decide]; omega)]
    rfl
theorem hl_in (hl : l < n) (hn : n ≤ 6) : 0 ≤ (nI l).toInt ∧ (nI l).toInt < (n : Int) := by
  rw [nI_toInt (by omega)]
  omega
theorem kx_lane (hz : HZ8 z b) (h : GR8 M (b + 2) Q B) (hl : l < kn8 Q) (hw : w ≤ 7) : f_X2_laneOf z b (nI l) (nI w) M = some (.inl (some (.int (nu8 Q l w))), M) := by
  have hl3 := (g8_at h hl).2.2.2.1
  have hy := hl_in hl (by have := h.2.1.2.1; omega)
  unfold f_X2_laneOf
  rw [iv_k hz.1.1, x2_checkLane hz h hy, bv_k, if_neg (nI_pos (by omega)), if_pos (show nI w ≤ 7 from nI_le (b := 7) hw (by decide)), hz_rP hz, sb_k, hz_rg (hz_P hz), sb_k, g8_la (hz_P hz) hl3, sb_k, iv_k ((hz_P hz).2.2.2 l hl3).1, x1_number (hz_P hz) h hl (by omega), bi_k]
  rfl
theorem kx_lane_a (hz : HZ8 z b) (h : GR8 M (b + 2) Q B) (hl : l < kn8 Q) (hw : ¬ (0 ≤ u.toInt ∧ u.toInt ≤ 7)) : f_X2_laneOf z b (nI l) u M = some (.inr "java/lang/IllegalArgumentException", M) := by
  have hy := hl_in hl (by have := h.2.1.2.1; omega)
  unfold f_X2_laneOf
  rw [iv_k hz.1.1, x2_checkLane hz h hy, bv_k]
  by_cases h1 : u < 0
  · rw [if_pos h1]
    rfl
  · rw [if_neg h1, if_neg (by rw [i32_lt, i32_0] at h1; rw [i32_le, show (7 : Int32).toInt = 7 by decide]; omega)]
    rfl
theorem kx_lane_i (hz : HZ8 z b) (h : GR8 M (b + 2) Q B) (hy : ¬ (0 ≤ y.toInt ∧ y.toInt < (kn8 Q : Int))) : f_X2_laneOf z b y u M = some (.inr "java/lang/IndexOutOfBoundsException", M) := by
  unfold f_X2_laneOf
  rw [iv_k hz.1.1, x2_noLane hz h hy, bv_r]
theorem kx_vehicle (hz : HZ8 z b) (h : GR8 M (b + 2) Q B) (hl : l < kn8 Q) (hk : k < kc8 Q l) (hw : w ≤ 4) : f_X2_vehicle z b (nI l) (nI k) (nI w) M = some (.inl (some (.int (pu_s Q l (7 + 5 * k + w)))), M) := by
  have hl3 := (g8_at h hl).2.2.2.1
  have h6 := (g8_at h hl).1.2.1
  unfold f_X2_vehicle
  rw [iv_k hz.1.1, x2_checkVeh hz h hl rfl (hl_in hk h6), bv_k, if_neg (nI_pos (by omega)), if_pos (show nI w ≤ 4 from nI_le (b := 4) hw (by decide)), hz_rP hz, sb_k, hz_rg (hz_P hz), sb_k, g8_la (hz_P hz) hl3, sb_k, iv_k ((hz_P hz).2.2.2 l hl3).1, x1_vehicle (hz_P hz) h hl hk (by omega), bi_k]
  rfl
theorem kx_vehicle_i {v : Int32} (hz : HZ8 z b) (h : GR8 M (b + 2) Q B) (hno : ¬ ((0 ≤ y.toInt ∧ y.toInt < (kn8 Q : Int)) ∧ ∀ l, y = nI l → l < 3 → 0 ≤ u.toInt ∧ u.toInt < (kc8 Q l : Int))) : f_X2_vehicle z b y u v M = some (.inr "java/lang/IndexOutOfBoundsException", M) := by
  unfold f_X2_vehicle
  rw [iv_k hz.1.1, x2_noVeh hz h hno, bv_r]
theorem kx_why (hz : HZ8 z b) (h : GR8 M (b + 2) Q B) (hl : l < kn8 Q) : f_X2_why z b (nI l) M = some (.inl (some (.int (rs9 (kc8 Q l) (pu_s Q l)))), M) := by
  have hl3 := (g8_at h hl).2.2.2.1
  have hy := hl_in hl (by have := h.2.1.2.1; omega)
  unfold f_X2_why
  rw [iv_k hz.1.1, x2_checkLane hz h hy, bv_k, hz_rP hz, sb_k, hz_rg (hz_P hz), sb_k, g8_la (hz_P hz) hl3, sb_k, iv_k ((hz_P hz).2.2.2 l hl3).1, x1_why (hz_P hz) h hl, bi_k]
  rfl
theorem kx_why_i (hz : HZ8 z b) (h : GR8 M (b + 2) Q B) (hy : ¬ (0 ≤ y.toInt ∧ y.toInt < (kn8 Q : Int))) : f_X2_why z b y M = some (.inr "java/lang/IndexOutOfBoundsException", M) := by
  unfold f_X2_why
  rw [iv_k hz.1.1, x2_noLane hz h hy, bv_r]
theorem kx_setting (hz : HZ8 z b) (h : GR8 M (b + 2) Q B) (hw : w ≤ 2) : f_X2_setting z b (nI w) M = some (.inl (some (.int (Q (7 + w)))), M) := by
  unfold f_X2_setting
  rw [if_neg (nI_pos (by omega)), if_pos (show nI w < 3 from nI_lt (b := 3) (by omega) (by decide)), hz_rP hz, sb_k, rf_k (hz_P hz).1, sb_k, ld_k (hz_P hz).2.2.1 (by omega) (by decide), sb_k, h.2.2.2.1 w (by omega)]
  rfl
theorem kx_setting_a (hy : ¬ (0 ≤ y.toInt ∧ y.toInt ≤ 2)) : f_X2_setting z b y M = some (.inr "java/lang/IllegalArgumentException", M) := by
  unfold f_X2_setting
  by_cases h1 : y < 0
  · rw [if_pos h1]
    rfl
  · rw [if_neg h1, if_neg (by rw [i32_lt, i32_0] at h1; rw [i32_lt, i32_3]; omega)]
    rfl
/-! calls that are refused ahead of everything -/
theorem kx_append_a (hy : ¬ (0 ≤ y.toInt ∧ y.toInt ≤ 255)) : f_X2_append z b y M = some (.inr "java/lang/IllegalArgumentException", M) := by
  unfold f_X2_append
  by_cases h1 : y < 0
  · rw [if_pos h1]
    rfl
  · rw [if_neg h1, if_neg (by rw [i32_lt, i32_0] at h1; rw [i32_le, show (255 : Int32).toInt = 255 by decide]; omega)]
    rfl
theorem kx_best_a (hz : HZ8 z b) (hy : ¬ (2 ≤ y.toInt ∧ y.toInt ≤ 12)) : f_X2_bestLane z b y M = some (.inr "java/lang/IllegalArgumentException", M) := by
  unfold f_X2_bestLane
  rw [x2_noLength hy, bv_r]
theorem kx_script_a {s : Int64} (hy : ¬ (1 ≤ y.toInt ∧ y.toInt ≤ 3)) : f_X2_runScript z b y s M = some (.inr "java/lang/IllegalArgumentException", M) := by
  unfold f_X2_runScript
  by_cases h1 : y < 1
  · rw [if_pos h1]
    rfl
  · rw [if_neg h1, if_neg (by rw [i32_lt, i32_1] at h1; rw [i32_le, i32_3]; omega)]
    rfl
theorem kx_simulate_a {s : Int64} (hy : ¬ (1 ≤ y.toInt ∧ y.toInt ≤ 60)) : f_X2_simulate z b s y M = some (.inr "java/lang/IllegalArgumentException", M) := by
  unfold f_X2_simulate
  by_cases h1 : y < 1
  · rw [if_pos h1]
    rfl
  · rw [if_neg h1, if_neg (by rw [i32_lt, i32_1] at h1; rw [i32_le, i32_60]; omega)]
    rfl
theorem kx_coming_a (hy : ¬ (1 ≤ y.toInt ∧ y.toInt ≤ 400)) : f_X2_coming z b y u M = some (.inr "java/lang/IllegalArgumentException", M) := by
  unfold f_X2_coming
  by_cases h1 : y < 1
  · rw [if_pos h1]
    rfl
  · rw [if_neg h1, if_neg (by rw [i32_lt, i32_1] at h1; rw [i32_le, show (400 : Int32).toInt = 400 by decide]; omega)]
    rfl
theorem kx_coming_w {N : Nat} (h1N : 1 ≤ N) (hN : N ≤ 400) (hw : ¬ (0 ≤ u.toInt ∧ u.toInt ≤ 4)) : f_X2_coming z b (nI N) u M = some (.inr "java/lang/IllegalArgumentException", M) := by
  unfold f_X2_coming
  rw [if_neg (show ¬ nI N < 1 from nI_nlt (b := 1) h1N (by omega)), if_pos (show nI N ≤ 400 from nI_le (b := 400) hN (by decide))]
  by_cases h1 : u < 0
  · rw [if_pos h1]
    rfl
  · rw [if_neg h1, if_neg (by rw [i32_lt, i32_0] at h1; rw [i32_le, show (4 : Int32).toInt = 4 by decide]; omega)]
    rfl
theorem kx_arrive_i {len lost fol : Int32} (hz : HZ8 z b) (h : GR8 M (b + 2) Q B) (hy : ¬ (0 ≤ y.toInt ∧ y.toInt < (kn8 Q : Int))) : f_X2_arrive z b y len lost fol M = some (.inr "java/lang/IndexOutOfBoundsException", M) := by
  unfold f_X2_arrive
  rw [iv_k hz.1.1, x2_noLane hz h hy, bv_r]
theorem kx_arrive_a {len lost fol : Int32} (hz : HZ8 z b) (h : GR8 M (b + 2) Q B) (hl : l < kn8 Q) (hlen : ¬ (2 ≤ len.toInt ∧ len.toInt ≤ 12)) : f_X2_arrive z b (nI l) len lost fol M = some (.inr "java/lang/IllegalArgumentException", M) := by
  unfold f_X2_arrive
  rw [iv_k hz.1.1, x2_checkLane hz h (hl_in hl (by have := h.2.1.2.1; omega)), bv_k, x2_noLength hlen, bv_r]
theorem kx_arrive_s {len lost fol : Int32} (hz : HZ8 z b) (h : GR8 M (b + 2) Q B) (hl : l < kn8 Q) (hlen : 2 ≤ len.toInt ∧ len.toInt ≤ 12) (hc : ¬ kc8 Q l < 6) : f_X2_arrive z b (nI l) len lost fol M = some (.inr "java/lang/IllegalStateException", M) := by
  obtain ⟨hI, hA1, hB1, hl3, hc0, -, -⟩ := g8_at h hl
  have h6 := hI.2.1
  have e5 : M (b + 2 + 3 + 6 * l) 5 = nI (kc8 Q l) := hc0
  unfold f_X2_arrive
  rw [iv_k hz.1.1, x2_checkLane hz h (hl_in hl (by have := h.2.1.2.1; omega)), bv_k, x2_length hlen, bv_k, hz_rP hz, sb_k, hz_rg (hz_P hz), sb_k, g8_la (hz_P hz) hl3, sb_k, gf_k ((hz_P hz).2.2.2 l hl3).1, sb_k, e5, if_neg (show ¬ nI _ < 6 from nI_nlt (b := 6) (by omega) (by omega))]
  rfl
theorem kx_loop_i {v : Int32} (hz : HZ8 z b) (h : GR8 M (b + 2) Q B) (hy : ¬ (0 ≤ y.toInt ∧ y.toInt < (kn8 Q : Int))) : f_X2_loop z b y v M = some (.inr "java/lang/IndexOutOfBoundsException", M) := by
  unfold f_X2_loop
  rw [iv_k hz.1.1, x2_noLane hz h hy, bv_r]
theorem kx_mend_i (hz : HZ8 z b) (h : GR8 M (b + 2) Q B) (hy : ¬ (0 ≤ y.toInt ∧ y.toInt < (kn8 Q : Int))) : f_X2_mend z b y M = some (.inr "java/lang/IndexOutOfBoundsException", M) := by
  unfold f_X2_mend
  rw [iv_k hz.1.1, x2_noLane hz h hy, bv_r]
theorem kx_mend_s (hz : HZ8 z b) (h : GR8 M (b + 2) Q B) (hl : l < kn8 Q) (hc : ¬ cb8 Q l) : f_X2_mend z b (nI l) M = some (.inr "java/lang/IllegalStateException", M) := by
  have hl3 := (g8_at h hl).2.2.2.1
  unfold f_X2_mend
  rw [iv_k hz.1.1, x2_checkLane hz h (hl_in hl (by have := h.2.1.2.1; omega)), bv_k, hz_rP hz, sb_k, hz_rg (hz_P hz), sb_k, g8_la (hz_P hz) hl3, sb_k, iv_k ((hz_P hz).2.2.2 l hl3).1, x1_mend (hz_P hz) h hl, bi_k, if_neg hc, if_pos rfl]
  rfl
theorem kx_run_a (hy : ¬ (1 ≤ y.toInt ∧ y.toInt ≤ 60)) : f_X2_run z b y M = some (.inr "java/lang/IllegalArgumentException", M) := by
  unfold f_X2_run
  by_cases h1 : y < 1
  · rw [if_pos h1]
    rfl
  · rw [if_neg h1, if_neg (by rw [i32_lt, i32_1] at h1; rw [i32_le, i32_60]; omega)]
    rfl
theorem kx_set_a (hs : ¬ se8 y u) : f_X2_set z b y u M = some (.inr "java/lang/IllegalArgumentException", M) := by
  unfold f_X2_set
  rw [x2_setting, bi_k, if_neg hs, if_pos rfl]
  rfl
theorem kx_add_s (hz : HZ8 z b) (h : GR8 M (b + 2) Q B) (hn : ¬ kn8 Q < 3) : f_X2_lane z b M = some (.inr "java/lang/IllegalStateException", M) := by
  have hn3 := h.2.1.2.1
  unfold f_X2_lane
  rw [hz_rP hz, sb_k, gf_k (hz_P hz).1, sb_k, (g8_2 h).1, if_neg (show ¬ nI _ < 3 from nI_nlt (b := 3) (by omega) (by omega))]
  rfl
theorem kx_empty_i (hz : HZ8 z b) (h : GR8 M (b + 2) Q B) (hy : ¬ (0 ≤ y.toInt ∧ y.toInt < (kn8 Q : Int))) : f_X2_emptyIn z b y M = some (.inr "java/lang/IndexOutOfBoundsException", M) := by
  unfold f_X2_emptyIn
  rw [iv_k hz.1.1, x2_noLane hz h hy, bv_r]
theorem kx_through_i (hz : HZ8 z b) (h : GR8 M (b + 2) Q B) (hno : ¬ ((0 ≤ y.toInt ∧ y.toInt < (kn8 Q : Int)) ∧ ∀ l, y = nI l → l < 3 → 0 ≤ u.toInt ∧ u.toInt < (kc8 Q l : Int))) : f_X2_throughIn z b y u M = some (.inr "java/lang/IndexOutOfBoundsException", M) := by
  unfold f_X2_throughIn
  rw [iv_k hz.1.1, x2_noVeh hz h hno, bv_r]
theorem kx_hits_i (hz : HZ8 z b) (h : GR8 M (b + 2) Q B) (hy : ¬ (0 ≤ y.toInt ∧ y.toInt < (kn8 Q : Int))) : f_X2_hitsIn z b y M = some (.inr "java/lang/IndexOutOfBoundsException", M) := by
  unfold f_X2_hitsIn
  rw [iv_k hz.1.1, x2_noLane hz h hy, bv_r]
theorem kx_save_i (hy : ¬ (0 ≤ y.toInt ∧ y.toInt ≤ 1)) : f_X2_save z b y M = some (.inr "java/lang/IndexOutOfBoundsException", M) := by
  unfold f_X2_save
  rw [x2_noSlot hy, bv_r]
theorem kx_back_i (hy : ¬ (0 ≤ y.toInt ∧ y.toInt ≤ 1)) : f_X2_restore z b y M = some (.inr "java/lang/IndexOutOfBoundsException", M) := by
  unfold f_X2_restore
  rw [x2_noSlot hy, bv_r]
/-! what would be: the copy alone is touched -/
theorem kx_empty (hz : HZ8 z b) (h : GR8 M (b + 2) Q B) (hl : l < kn8 Q) : ∃ M', f_X2_emptyIn z b (nI l) M = some (.inl (some (.int (le8 (Q 7) (Q 8) (Q 9) 401 0 (kc8 Q l) (pu_s Q l)))), M') ∧ F8 M M' (b + 23) 21 := by
  have hl3 := (g8_at h hl).2.2.2.1
  obtain ⟨M1, t1, f1, g1⟩ := x0_copy (hz_C hz) (hz_P hz) (by omega) h
  obtain ⟨hlc, hgg⟩ := g8_lc g1 hl
  obtain ⟨M2, t2, f2⟩ := xl_empty hz hl3 hgg 401 0 FU9 M1 _ (by omega) (by unfold FU9; omega) hlc
  have hA := (g8_at g1 hl).2.1
  rw [← le_cong _ _ _ _ _ hA] at t2
  refine ⟨M2, ?_, f8_trans f1 f2⟩
  unfold f_X2_emptyIn
  rw [iv_k hz.1.1, x2_checkLane hz h (hl_in hl (by have := h.2.1.2.1; omega)), bv_k, hz_rC hz, sb_k, hz_rP hz, sb_k, iv_k (hz_C hz).1, t1, bv_k, sb_k, hz_rg (hz_C hz), sb_k, g8_la (hz_C hz) hl3, sb_k]
  exact t2
theorem kx_through (hz : HZ8 z b) (h : GR8 M (b + 2) Q B) (hl : l < kn8 Q) (hk : k < kc8 Q l) : ∃ M', f_X2_throughIn z b (nI l) (nI k) M = some (.inl (some (.int (lt8 (Q 7) (Q 8) (Q 9) 401 0 k (kc8 Q l) (pu_s Q l)))), M') ∧ F8 M M' (b + 23) 21 := by
  have hl3 := (g8_at h hl).2.2.2.1
  have h6 := (g8_at h hl).1.2.1
  obtain ⟨M1, t1, f1, g1⟩ := x0_copy (hz_C hz) (hz_P hz) (by omega) h
  obtain ⟨M2, t2, f2⟩ := x2_cti (j := k) hz g1 hl hk
  refine ⟨M2, ?_, f8_trans f1 f2⟩
  unfold f_X2_throughIn
  rw [iv_k hz.1.1, x2_checkVeh hz h hl rfl (hl_in hk h6), bv_k, hz_rC hz, sb_k, hz_rP hz, sb_k, iv_k (hz_C hz).1, t1, bv_k, iv_k hz.1.1, t2, bi_k]
  rfl
theorem kx_coming {N : Nat} (hz : HZ8 z b) (h : GR8 M (b + 2) Q B) (h1N : 1 ≤ N) (hN : N ≤ 400) (hw : w ≤ 4) : ∃ M', f_X2_coming z b (nI N) (nI w) M = some (.inl (some (.int (co8 Q Q N w))), M') ∧ F8 M M' (b + 23) 21 := by
  obtain ⟨M1, t1, f1, g1⟩ := x0_copy (hz_C hz) (hz_P hz) (by omega) h
  obtain ⟨M2, t2, f2, g2⟩ := xc_loop (N := N) (w := nI w) (by omega) hz N 0 FU9 M1 Q B 0 (by omega) (by unfold FU9; omega) g1
  have f12 := f8_trans f1 f2
  have hP2 : GR8 M2 (b + 2) Q B := g8_out h f12 (by omega)
  rw [xc_val hz (by omega) hP2 g2] at t2
  refine ⟨M2, ?_, f12⟩
  unfold f_X2_coming
  rw [if_neg (show ¬ nI N < 1 from nI_nlt (b := 1) h1N (by omega)), if_pos (show nI N ≤ 400 from nI_le (b := 400) hN (by decide)), if_neg (nI_pos (by omega)), if_pos (show nI w ≤ 4 from nI_le (b := 4) hw (by decide)), hz_rC hz, sb_k, hz_rP hz, sb_k, iv_k (hz_C hz).1, t1, bv_k]
  exact t2
theorem kx_hits (hBB : B < 1000000000) (hz : HZ8 z b) (h : GR8 M (b + 2) Q B) (hl : l < kn8 Q) : ∃ M', f_X2_hitsIn z b (nI l) M = some (.inl (some (.int (lh8 (qb8 l 1 Q 7) (qb8 l 1 Q 8) (qb8 l 1 Q 9) 400 1 (kc8 (qb8 l 1 Q) l) (pu_s (qb8 l 1 Q) l)))), M') ∧ F8 M M' (b + 23) 21 := by
  have hR := h.2.1
  have hl3 := (g8_at h hl).2.2.2.1
  obtain ⟨M0, t0, f0, g0⟩ := x0_copy (hz_C hz) (hz_P hz) (by omega) h
  obtain ⟨M1, t1, f1, g1⟩ := x0_loop (hz_C hz) g0 hl (Or.inr rfl : b9 1)
  have hI4 := pI_4 (Or.inr rfl : b9 1) (hR.2.2.2 l hl)
  obtain ⟨hRb, hnb⟩ := ri_S hR hl hI4
  have hlb : l < kn8 (qb8 l 1 Q) := by
    have : kn8 (qb8 l 1 Q) = kn8 Q := hnb
    rw [this]; exact hl
  obtain ⟨hlc, hgg⟩ := g8_lc g1 hlb
  obtain ⟨x, hx1, hx2⟩ := g8_hits g1 hlb
  obtain ⟨M2, t2, f2⟩ := xl_hits hz hl3 hgg (h0 := x) (by omega) 400 1 FU9 M1 _ (by omega) (by unfold FU9; omega) hlc hx2
  have hA := (g8_at g1 hlb).2.1
  rw [← lh_cong _ _ _ _ _ hA] at t2
  refine ⟨M2, ?_, f8_trans f0 (f8_trans f1 f2)⟩
  unfold f_X2_hitsIn
  rw [iv_k hz.1.1, x2_checkLane hz h (hl_in hl (by have := h.2.1.2.1; omega)), bv_k, hz_rC hz, sb_k, hz_rP hz, sb_k, iv_k (hz_C hz).1, t0, bv_k, sb_k, iv_k (hz_C hz).1, t1, bi_k, sb_k, hz_rg (hz_C hz), sb_k, g8_la (hz_C hz) hl3, sb_k, gf_k ((hz_C hz).2.2.2 l hl3).1, sb_k, hx2]
  exact t2
end SB
