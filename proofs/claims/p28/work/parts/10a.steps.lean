section UA
variable {z : Sh9} {M M' M0 M1 : Mem9} {b b1 b2 l k w n i A B B' T : Nat} {Q : Nat → Int32} {s s' t : St8} {x y u v : Int32} {K : Int32 → Mem9 → Re9} {f : Nat → Mem9 → Re9} {Post : Mem9 → Prop} {a : Int32}
/-! a text that comes to an answer, with what holds then -/
def RT8 (r : Re9) (a : Int32) (Post : Mem9 → Prop) : Prop := ∃ M', r = some (.inl (some (.int a)), M') ∧ Post M'
def PR8 (M : Mem9) (b1 b2 : Nat) (s t : St8) (B : Nat) : Prop := OB8 M b1 s B ∧ OB8 M b2 t B
abbrev AP8 (b1 b2 : Nat) : Prop := b1 + 383 ≤ b2 ∨ b2 + 383 ≤ b1
theorem rt_i (h : Post M) : RT8 (ri9 a M) a Post := ⟨M, rfl, h⟩
theorem rt_1 (h : Post M) : RT8 (rz9 1 M) 1 Post := ⟨M, rz_1, h⟩
theorem bi_rt {r : Re9} (e : r = some (.inl (some (.int v)), M1)) (k : RT8 (K v M1) a Post) : RT8 (bi9 r K) a Post := by
  rw [e]
  exact k
theorem s_q (hq : QU8 z f s v) (hz : HZ8 z b) (hB : B < 1000000000) (h : OB8 M b s B) (hf : F8 M0 M (b + 23) 21) (k : ∀ M1, OB8 M1 b s B → F8 M0 M1 (b + 23) 21 → RT8 (K v M1) a Post) : RT8 (bi9 (f b M) K) a Post := by
  obtain ⟨M1, e1, f1⟩ := hq b M B hz hB h
  exact bi_rt e1 (k M1 (ob_q h f1) (f8_trans hf f1))
theorem s_a (hq : AC8 z f s v s') (hz : HZ8 z b) (hB : B < 1000000000) (h : OB8 M b s B) (hf : F8 M0 M b 383) (k : ∀ M1, OB8 M1 b s' (B + 180) → F8 M0 M1 b 383 → RT8 (K v M1) a Post) : RT8 (bi9 (f b M) K) a Post := by
  obtain ⟨M1, e1, f1, h1⟩ := hq b M B hz hB h
  exact bi_rt e1 (k M1 h1 (f8_trans hf f1))
theorem o_q (hq : QU8 z f s v) (hz : HZ8 z b1) (ha : AP8 b1 b2) (hB : B < 1000000000) (h : PR8 M b1 b2 s t B) (k : ∀ M1, PR8 M1 b1 b2 s t B → RT8 (K v M1) a Post) : RT8 (bi9 (f b1 M) K) a Post := by
  obtain ⟨M1, e1, f1⟩ := hq b1 M B hz hB h.1
  exact bi_rt e1 (k M1 ⟨ob_q h.1 f1, ob_out h.2 (f8_383 f1) (by omega)⟩)
theorem q_q (hq : QU8 z f t v) (hz : HZ8 z b2) (ha : AP8 b1 b2) (hB : B < 1000000000) (h : PR8 M b1 b2 s t B) (k : ∀ M1, PR8 M1 b1 b2 s t B → RT8 (K v M1) a Post) : RT8 (bi9 (f b2 M) K) a Post := by
  obtain ⟨M1, e1, f1⟩ := hq b2 M B hz hB h.2
  exact bi_rt e1 (k M1 ⟨ob_out h.1 (f8_383 f1) (by omega), ob_q h.2 f1⟩)
theorem o_a (hq : AC8 z f s v s') (hz : HZ8 z b1) (ha : AP8 b1 b2) (hB : B < 1000000000) (h : PR8 M b1 b2 s t B) (k : ∀ M1, PR8 M1 b1 b2 s' t (B + 180) → RT8 (K v M1) a Post) : RT8 (bi9 (f b1 M) K) a Post := by
  obtain ⟨M1, e1, f1, h1⟩ := hq b1 M B hz hB h.1
  exact bi_rt e1 (k M1 ⟨h1, ob_mono (ob_out h.2 f1 (by omega)) (by omega)⟩)
theorem q_a (hq : AC8 z f t v s') (hz : HZ8 z b2) (ha : AP8 b1 b2) (hB : B < 1000000000) (h : PR8 M b1 b2 s t B) (k : ∀ M1, PR8 M1 b1 b2 s s' (B + 180) → RT8 (K v M1) a Post) : RT8 (bi9 (f b2 M) K) a Post := by
  obtain ⟨M1, e1, f1, h1⟩ := hq b2 M B hz hB h.2
  exact bi_rt e1 (k M1 ⟨ob_mono (ob_out h.1 f1 (by omega)) (by omega), h1⟩)
theorem qu_of (h : ∀ b M B, HZ8 z b → B < 1000000000 → OB8 M b s B → RT8 (f b M) v (fun M' => F8 M M' (b + 23) 21)) : QU8 z f s v := h
theorem ac_of (h : ∀ b M B, HZ8 z b → B < 1000000000 → OB8 M b s B → RT8 (f b M) v (fun M' => F8 M M' b 383 ∧ OB8 M' b s' (B + 180))) : AC8 z f s v s' := h
/-! the queries, and the calls that are refused -/
theorem u_about (hw : w ≤ 9) : QU8 z (fun b M => f_L_call z b 2 (nI w) y u M) s (aw8 s.1 w) := qu_same (fun b M B hz h => ck_2 hz (kx_about hz h.1 hw))
theorem u_about_a (hx : ¬ (0 ≤ x.toInt ∧ x.toInt ≤ 9)) : QU8 z (fun b M => f_L_call z b 2 x y u M) s (-9999002) := qu_same (fun b M B hz h => ce_2a hz (kx_noabout hx))
theorem u_lane (hl : l < kn8 s.1) (hw : w ≤ 7) : QU8 z (fun b M => f_L_call z b 3 (nI l) (nI w) u M) s (nu8 s.1 l w) := qu_same (fun b M B hz h => ck_3 hz (kx_lane hz h.1 hl hw))
theorem u_lane_a (hl : l < kn8 s.1) (hy : ¬ (0 ≤ y.toInt ∧ y.toInt ≤ 7)) : QU8 z (fun b M => f_L_call z b 3 (nI l) y u M) s (-9999002) := qu_same (fun b M B hz h => ce_3a hz (kx_lane_a hz h.1 hl hy))
theorem u_lane_i (hx : ¬ (0 ≤ x.toInt ∧ x.toInt < (kn8 s.1 : Int))) : QU8 z (fun b M => f_L_call z b 3 x y u M) s (-9999001) := qu_same (fun b M B hz h => ce_3i hz (kx_lane_i hz h.1 hx))
theorem u_veh (hl : l < kn8 s.1) (hk : k < kc8 s.1 l) (hw : w ≤ 4) : QU8 z (fun b M => f_L_call z b 4 (nI l) (nI k) (nI w) M) s (pu_s s.1 l (7 + 5 * k + w)) := qu_same (fun b M B hz h => ck_4 hz (kx_vehicle hz h.1 hl hk hw))
theorem u_veh_i (hno : ¬ ((0 ≤ x.toInt ∧ x.toInt < (kn8 s.1 : Int)) ∧ ∀ l, x = nI l → l < 3 → 0 ≤ y.toInt ∧ y.toInt < (kc8 s.1 l : Int))) : QU8 z (fun b M => f_L_call z b 4 x y u M) s (-9999001) := qu_same (fun b M B hz h => ce_4i hz (kx_vehicle_i hz h.1 hno))
theorem u_why (hl : l < kn8 s.1) : QU8 z (fun b M => f_L_call z b 5 (nI l) y u M) s (rs9 (kc8 s.1 l) (pu_s s.1 l)) := qu_same (fun b M B hz h => ck_5 hz (kx_why hz h.1 hl))
theorem u_why_i (hx : ¬ (0 ≤ x.toInt ∧ x.toInt < (kn8 s.1 : Int))) : QU8 z (fun b M => f_L_call z b 5 x y u M) s (-9999001) := qu_same (fun b M B hz h => ce_5i hz (kx_why_i hz h.1 hx))
theorem u_set (hw : w ≤ 2) : QU8 z (fun b M => f_L_call z b 6 (nI w) y u M) s (s.1 (7 + w)) := qu_same (fun b M B hz h => ck_6 hz (kx_setting hz h.1 hw))
theorem u_set_a (hx : ¬ (0 ≤ x.toInt ∧ x.toInt ≤ 2)) : QU8 z (fun b M => f_L_call z b 6 x y u M) s (-9999002) := qu_same (fun b M B hz h => ce_6a hz (kx_setting_a hx))
theorem u_append_a (hx : ¬ (0 ≤ x.toInt ∧ x.toInt ≤ 255)) : QU8 z (fun b M => f_L_call z b 0 x y u M) s (-9999002) := qu_same (fun b M B hz h => ce_0a hz (kx_append_a hx))
theorem u_add_s (hn : ¬ kn8 s.1 < 3) : QU8 z (fun b M => f_L_call z b 7 x y u M) s (-9999003) := qu_same (fun b M B hz h => ce_7s hz (kx_add_s hz h.1 hn))
theorem u_mend_i (hx : ¬ (0 ≤ x.toInt ∧ x.toInt < (kn8 s.1 : Int))) : QU8 z (fun b M => f_L_call z b 8 x y u M) s (-9999001) := qu_same (fun b M B hz h => ce_8i hz (kx_mend_i hz h.1 hx))
theorem u_mend_s (hl : l < kn8 s.1) (hc : ¬ cb8 s.1 l) : QU8 z (fun b M => f_L_call z b 8 (nI l) y u M) s (-9999003) := qu_same (fun b M B hz h => ce_8s hz (kx_mend_s hz h.1 hl hc))
theorem u_run_a (hx : ¬ (1 ≤ x.toInt ∧ x.toInt ≤ 60)) : QU8 z (fun b M => f_L_call z b 9 x y u M) s (-9999002) := qu_same (fun b M B hz h => ce_9a hz (kx_run_a hx))
theorem u_lay_a (hs : ¬ se8 x y) : QU8 z (fun b M => f_L_call z b 10 x y u M) s (-9999002) := qu_same (fun b M B hz h => ce_10a hz (kx_set_a hs))
theorem u_empty (hl : l < kn8 s.1) : QU8 z (fun b M => f_L_call z b 12 (nI l) y u M) s (le8 (s.1 7) (s.1 8) (s.1 9) 401 0 (kc8 s.1 l) (pu_s s.1 l)) := fun b M B hz hB h => by
  obtain ⟨M', t, f⟩ := kx_empty hz h.1 hl
  exact ⟨M', ck_12 hz t, f⟩
theorem u_empty_i (hx : ¬ (0 ≤ x.toInt ∧ x.toInt < (kn8 s.1 : Int))) : QU8 z (fun b M => f_L_call z b 12 x y u M) s (-9999001) := qu_same (fun b M B hz h => ce_12i hz (kx_empty_i hz h.1 hx))
theorem u_through (hl : l < kn8 s.1) (hk : k < kc8 s.1 l) : QU8 z (fun b M => f_L_call z b 13 (nI l) (nI k) u M) s (lt8 (s.1 7) (s.1 8) (s.1 9) 401 0 k (kc8 s.1 l) (pu_s s.1 l)) := fun b M B hz hB h => by
  obtain ⟨M', t, f⟩ := kx_through hz h.1 hl hk
  exact ⟨M', ck_13 hz t, f⟩
theorem u_through_i (hno : ¬ ((0 ≤ x.toInt ∧ x.toInt < (kn8 s.1 : Int)) ∧ ∀ l, x = nI l → l < 3 → 0 ≤ y.toInt ∧ y.toInt < (kc8 s.1 l : Int))) : QU8 z (fun b M => f_L_call z b 13 x y u M) s (-9999001) := qu_same (fun b M B hz h => ce_13i hz (kx_through_i hz h.1 hno))
theorem u_best_a (hx : ¬ (2 ≤ x.toInt ∧ x.toInt ≤ 12)) : QU8 z (fun b M => f_L_call z b 14 x y u M) s (-9999002) := qu_same (fun b M B hz h => ce_14a hz (kx_best_a hz hx))
theorem u_coming (h1 : 1 ≤ n) (hn : n ≤ 400) (hw : w ≤ 4) : QU8 z (fun b M => f_L_call z b 15 (nI n) (nI w) u M) s (co8 s.1 s.1 n w) := fun b M B hz hB h => by
  obtain ⟨M', t, f⟩ := kx_coming hz h.1 h1 hn hw
  exact ⟨M', ck_15 hz t, f⟩
theorem u_coming_a (hx : ¬ (1 ≤ x.toInt ∧ x.toInt ≤ 400)) : QU8 z (fun b M => f_L_call z b 15 x y u M) s (-9999002) := qu_same (fun b M B hz h => ce_15a hz (kx_coming_a hx))
theorem u_coming_w (h1 : 1 ≤ n) (hn : n ≤ 400) (hy : ¬ (0 ≤ y.toInt ∧ y.toInt ≤ 4)) : QU8 z (fun b M => f_L_call z b 15 (nI n) y u M) s (-9999002) := qu_same (fun b M B hz h => ce_15a hz (kx_coming_w h1 hn hy))
theorem u_hits (hl : l < kn8 s.1) : QU8 z (fun b M => f_L_call z b 16 (nI l) y u M) s (lh8 (qb8 l 1 s.1 7) (qb8 l 1 s.1 8) (qb8 l 1 s.1 9) 400 1 (kc8 (qb8 l 1 s.1) l) (pu_s (qb8 l 1 s.1) l)) := fun b M B hz hB h => by
  obtain ⟨M', t, f⟩ := kx_hits hB hz h.1 hl
  exact ⟨M', ck_16 hz t, f⟩
theorem u_hits_i (hx : ¬ (0 ≤ x.toInt ∧ x.toInt < (kn8 s.1 : Int))) : QU8 z (fun b M => f_L_call z b 16 x y u M) s (-9999001) := qu_same (fun b M B hz h => ce_16i hz (kx_hits_i hz h.1 hx))
theorem u_keep_i (hx : ¬ (0 ≤ x.toInt ∧ x.toInt ≤ 1)) : QU8 z (fun b M => f_L_call z b 17 x y u M) s (-9999001) := qu_same (fun b M B hz h => ce_17i hz (kx_save_i hx))
theorem u_back_i (hx : ¬ (0 ≤ x.toInt ∧ x.toInt ≤ 1)) : QU8 z (fun b M => f_L_call z b 18 x y u M) s (-9999001) := qu_same (fun b M B hz h => ce_18i hz (kx_back_i hx))
theorem u_comes_i {len lost fol : Int32} (hx : ¬ (0 ≤ x.toInt ∧ x.toInt < (kn8 s.1 : Int))) : QU8 z (fun b M => f_L_comes z b x len lost fol M) s (-9999001) := qu_same (fun b M B hz h => cm_i hz (kx_arrive_i hz h.1 hx))
theorem u_comes_a {len lost fol : Int32} (hl : l < kn8 s.1) (hlen : ¬ (2 ≤ len.toInt ∧ len.toInt ≤ 12)) : QU8 z (fun b M => f_L_comes z b (nI l) len lost fol M) s (-9999002) := qu_same (fun b M B hz h => cm_a hz (kx_arrive_a hz h.1 hl hlen))
theorem u_comes_s {len lost fol : Int32} (hl : l < kn8 s.1) (hlen : 2 ≤ len.toInt ∧ len.toInt ≤ 12) (hc : ¬ kc8 s.1 l < 6) : QU8 z (fun b M => f_L_comes z b (nI l) len lost fol M) s (-9999003) := qu_same (fun b M B hz h => cm_s hz (kx_arrive_s hz h.1 hl hlen hc))
theorem u_loops_i (hx : ¬ (0 ≤ x.toInt ∧ x.toInt < (kn8 s.1 : Int))) : QU8 z (fun b M => f_L_loops z b x y M) s (-9999001) := qu_same (fun b M B hz h => cl_i hz (kx_loop_i hz h.1 hx))
theorem u_sim_a {p : Int64} (hx : ¬ (1 ≤ x.toInt ∧ x.toInt ≤ 60)) : QU8 z (fun b M => f_L_doSimulate z b p x M) s (-9999002) := qu_same (fun b M B hz h => cd_a hz (kx_simulate_a hx))
theorem u_script_a {p : Int64} (hx : ¬ (1 ≤ x.toInt ∧ x.toInt ≤ 3)) : QU8 z (fun b M => f_L_doScript z b x p M) s (-9999002) := qu_same (fun b M B hz h => cs_a hz (kx_script_a hx))
theorem u_script_1 {X : Nat} (hX : X < 100000) : QU8 z (fun b M => f_L_doScript z b 1 ((100000 : Int64) + Int32.toInt64 (nI X)) M) s (-9999002) := qu_same (fun b M B hz h => by
  refine cs_a hz ?_
  have e : (100000 : Int64) + Int32.toInt64 (nI X) = lN (100000 + X) := by
    apply Int64.toInt_inj.mp
    rw [Int64.toInt_add, Int32.toInt_toInt64, nI_toInt (by omega), pk_lT (by omega), show (100000 : Int64).toInt = 100000 by decide]
    rw [Int.bmod_eq_of_le (by omega) (by omega)]
    omega
  rw [e]
  unfold f_X2_runScript
  have c1 : ¬ lg_cmp (lN (100000 + X)) 0 < 0 := fun q => by
    have := (cmp_lt _ _).mp q
    rw [pk_lT (by omega), show (0 : Int64).toInt = 0 by decide] at this
    omega
  rw [if_neg (by decide), if_pos (by decide), if_neg c1, show (1 : Int32) = nI 1 from rfl, x2_without (by omega) (by omega), bl_k, show (100000 + X) / 100000 ^ 1 = 1 by omega, if_neg (fun q => by
    have := cmp_0.mp q
    exact absurd this (by decide))]
  rfl)
end UA
