section UB
variable {z : Sh9} {M M0 : Mem9} {b k B T X : Nat} {s : St8} {x c far more no ap : Int32}
theorem ad_n {C : Nat} (hc : c = nI C) : c + nI k = nI (C + k) := by rw [hc, nI_add]
theorem sb_t {C : Int} (hc : c.toInt = C) (h1 : -1000 ≤ C) (h2 : C ≤ 1000) (hk : k < 1000) : (c - nI k).toInt = C - (k : Int) := by
  have e := nI_toInt (n := k) (by omega)
  rw [i32_sub (by rw [hc, e]; omega) (by rw [hc, e]; omega), hc, e]
theorem no_se {y v : Int32} (h : ¬ (0 ≤ v.toInt ∧ v.toInt ≤ 60)) : ¬ se8 y v := by
  rintro (⟨-, h1, h2⟩ | ⟨-, h1, h2⟩ | ⟨-, h1, h2⟩) <;> omega
set_option maxRecDepth 20000 in
set_option maxHeartbeats 4000000 in
theorem r_77 (hz : HZ8 z b) (hB : B < 1000000000) (h : OB8 M b s B) (hf : F8 M0 M (b + 23) 21) (hk1 : 1 ≤ kn8 s.1) (hX : X < 100000) (hap : ¬ (0 ≤ ap.toInt ∧ ap.toInt ≤ 255)) (hfar : ¬ (0 ≤ far.toInt ∧ far.toInt < (kn8 s.1 : Int))) (hmore : ¬ (0 ≤ more.toInt ∧ more.toInt < (kc8 s.1 0 : Int))) (hno : ¬ (2 ≤ no.toInt ∧ no.toInt ≤ 12)) : RT8 (f_L_refuses_b77 z b (nI X) far more no ap 0 b M) 1 (fun M' => F8 M0 M' (b + 23) 21) := by
  have r50 : rm9 (nI X) 50 = some (nI (X % 50)) := rm_n (D := 50) (d := 50) rfl (by omega) (by omega) (by omega) rfl
  have r9 : rm9 (nI X) 9 = some (nI (X % 9)) := rm_n (D := 9) (d := 9) rfl (by omega) (by omega) (by omega) rfl
  have r3 : rm9 (nI X) 3 = some (nI (X % 3)) := rm_n (D := 3) (d := 3) rfl (by omega) (by omega) (by omega) rfl
  have r2 : rm9 (nI X) 2 = some (nI (X % 2)) := rm_n (D := 2) (d := 2) rfl (by omega) (by omega) (by omega) rfl
  have m1 : (-1 : Int32).toInt = -1 := by decide
  unfold f_L_refuses_b77
  refine s_q (u_append_a hap) hz hB h hf (fun M h hf => ?_)
  rw [if_pos rfl]
  rw [r50, sb_k]
  refine s_q (u_about_a (by have e : (10 : Int32) + nI (X % 50) = nI (10 + X % 50) := ad_n rfl; rw [e, nI_toInt (by omega)]; omega)) hz hB h hf (fun M h hf => ?_)
  rw [if_pos rfl]
  refine s_q (u_lane_i hfar) hz hB h hf (fun M h hf => ?_)
  rw [if_pos rfl]
  rw [r9, sb_k]
  refine s_q (u_lane_a (l := 0) (by omega) (by have e : (8 : Int32) + nI (X % 9) = nI (8 + X % 9) := ad_n rfl; rw [e, nI_toInt (by omega)]; omega)) hz hB h hf (fun M h hf => ?_)
  rw [if_pos rfl]
  refine s_q (u_veh_i (fun e => hfar e.1)) hz hB h hf (fun M h hf => ?_)
  rw [if_pos rfl]
  refine s_q (u_veh_i (fun e => hmore (e.2 0 rfl (by omega)))) hz hB h hf (fun M h hf => ?_)
  rw [if_pos rfl]
  refine s_q (u_why_i hfar) hz hB h hf (fun M h hf => ?_)
  rw [if_pos rfl]
  rw [sb_k]
  refine s_q (u_set_a (by have e : (3 : Int32) + nI (X % 9) = nI (3 + X % 9) := ad_n rfl; rw [e, nI_toInt (by omega)]; omega)) hz hB h hf (fun M h hf => ?_)
  rw [if_pos rfl]
  refine s_q (u_comes_i hfar) hz hB h hf (fun M h hf => ?_)
  rw [if_pos rfl]
  refine s_q (u_comes_a (l := 0) (by omega) hno) hz hB h hf (fun M h hf => ?_)
  rw [if_pos rfl]
  refine s_q (u_loops_i hfar) hz hB h hf (fun M h hf => ?_)
  rw [if_pos rfl]
  refine s_q (u_mend_i hfar) hz hB h hf (fun M h hf => ?_)
  rw [if_pos rfl]
  rw [sb_k]
  refine s_q (u_run_a (by have e : (61 : Int32) + nI (X % 9) = nI (61 + X % 9) := ad_n rfl; rw [e, nI_toInt (by omega)]; omega)) hz hB h hf (fun M h hf => ?_)
  rw [if_pos rfl]
  rw [r3, sb_k, sb_k]
  refine s_q (u_lay_a (no_se (by have e : (61 : Int32) + nI (X % 9) = nI (61 + X % 9) := ad_n rfl; rw [e, nI_toInt (by omega)]; omega))) hz hB h hf (fun M h hf => ?_)
  rw [if_pos rfl]
  rw [sb_k, sb_k]
  refine s_q (u_lay_a (no_se (by rw [sb_t m1 (by omega) (by omega) (by omega)]; omega))) hz hB h hf (fun M h hf => ?_)
  rw [if_pos rfl]
  rw [r2, sb_k]
  refine s_q (u_lay_a (by rintro (⟨-, h1, h2⟩ | ⟨-, h1, h2⟩ | ⟨h0, -⟩); exact absurd h1 (by decide); exact absurd h1 (by decide); exact absurd ((nI_eq (a := X % 2) (b := 2) (by omega) (by omega)).mp h0) (by omega))) hz hB h hf (fun M h hf => ?_)
  rw [if_pos rfl]
  rw [sb_k]
  refine s_q (u_lay_a (by have e : (3 : Int32) + nI (X % 9) = nI (3 + X % 9) := ad_n rfl; rw [e]; rintro (⟨h0, -⟩ | ⟨h0, -⟩ | ⟨h0, -⟩); exact absurd ((nI_eq (b := 0) (by omega) (by omega)).mp h0) (by omega); exact absurd ((nI_eq (b := 1) (by omega) (by omega)).mp h0) (by omega); exact absurd ((nI_eq (b := 2) (by omega) (by omega)).mp h0) (by omega))) hz hB h hf (fun M h hf => ?_)
  rw [if_pos rfl]
  refine s_q (u_empty_i hfar) hz hB h hf (fun M h hf => ?_)
  rw [if_pos rfl]
  refine s_q (u_through_i (fun e => hmore (e.2 0 rfl (by omega)))) hz hB h hf (fun M h hf => ?_)
  rw [if_pos rfl]
  refine s_q (u_best_a hno) hz hB h hf (fun M h hf => ?_)
  rw [if_pos rfl]
  rw [sb_k]
  refine s_q (u_coming_a (by have e : (401 : Int32) + nI (X % 9) = nI (401 + X % 9) := ad_n rfl; rw [e, nI_toInt (by omega)]; omega)) hz hB h hf (fun M h hf => ?_)
  rw [if_pos rfl]
  rw [sb_k]
  refine s_q (u_coming_w (n := 1) (by omega) (by omega) (by have e : (5 : Int32) + nI (X % 9) = nI (5 + X % 9) := ad_n rfl; rw [e, nI_toInt (by omega)]; omega)) hz hB h hf (fun M h hf => ?_)
  rw [if_pos rfl]
  refine s_q (u_hits_i hfar) hz hB h hf (fun M h hf => ?_)
  rw [if_pos rfl]
  rw [sb_k]
  refine s_q (u_keep_i (by have e : (2 : Int32) + nI (X % 50) = nI (2 + X % 50) := ad_n rfl; rw [e, nI_toInt (by omega)]; omega)) hz hB h hf (fun M h hf => ?_)
  rw [if_pos rfl]
  rw [sb_k]
  refine s_q (u_back_i (by rw [sb_t m1 (by omega) (by omega) (by omega)]; omega)) hz hB h hf (fun M h hf => ?_)
  rw [if_pos rfl]
  refine s_q (u_script_a (by decide)) hz hB h hf (fun M h hf => ?_)
  rw [if_pos rfl]
  refine s_q (u_script_1 hX) hz hB h hf (fun M h hf => ?_)
  rw [if_pos rfl]
  rw [sb_k]
  refine s_q (u_sim_a (by have e : (61 : Int32) + nI (X % 9) = nI (61 + X % 9) := ad_n rfl; rw [e, nI_toInt (by omega)]; omega)) hz hB h hf (fun M h hf => ?_)
  rw [if_pos rfl]
  exact rt_1 hf
theorem u_refuses (hG : SG8 s T) (hX : X < 100000) : QU8 z (fun b M => f_L_refuses z b (nI X) M) s 1 := qu_of (fun b M B hz hB h => by
  have hk1 := hG.2.1
  have hR := hG.1.1
  have hn3 := hR.2.1
  have hI := hR.2.2.2 0 (by omega)
  have h6 := hI.2.1
  have r50 : rm9 (nI X) 50 = some (nI (X % 50)) := rm_n (D := 50) (d := 50) rfl (by omega) (by omega) (by omega) rfl
  have r99 : rm9 (nI X) 99 = some (nI (X % 99)) := rm_n (D := 99) (d := 99) rfl (by omega) (by omega) (by omega) rfl
  have r9 : rm9 (nI X) 9 = some (nI (X % 9)) := rm_n (D := 9) (d := 9) rfl (by omega) (by omega) (by omega) rfl
  have r2 : rm9 (nI X) 2 = some (nI (X % 2)) := rm_n (D := 2) (d := 2) rfl (by omega) (by omega) (by omega) rfl
  have m1 : (-1 : Int32).toInt = -1 := by decide
  have p1 : (1 : Int32).toInt = 1 := by decide
  have e0 : aw8 s.1 0 = nI (kn8 s.1) := hR.1
  have e1 : nu8 s.1 0 0 = nI (kc8 s.1 0) := hI.1
  have h50 : ∀ {M : Mem9} {no : Int32}, OB8 M b s B → ∀ {M0 : Mem9}, F8 M0 M (b + 23) 21 → ¬ (2 ≤ no.toInt ∧ no.toInt ≤ 12) → RT8 (f_L_refuses_b50 z b (nI X) (nI (kn8 s.1 + X % 50)) (nI (kc8 s.1 0 + X % 50)) no M) 1 (fun M' => F8 M0 M' (b + 23) 21) := by
    intro M no h M0 hf hno
    have hfar : ¬ (0 ≤ (nI (kn8 s.1 + X % 50)).toInt ∧ (nI (kn8 s.1 + X % 50)).toInt < (kn8 s.1 : Int)) := by rw [nI_toInt (by omega)]; omega
    have hmore : ¬ (0 ≤ (nI (kc8 s.1 0 + X % 50)).toInt ∧ (nI (kc8 s.1 0 + X % 50)).toInt < (kc8 s.1 0 : Int)) := by rw [nI_toInt (by omega)]; omega
    unfold f_L_refuses_b50
    rw [r2, sb_k]
    by_cases q : nI (X % 2) = 0
    · rw [if_pos q, r9, sb_k]
      exact r_77 hz hB h hf hk1 hX (by rw [sb_t m1 (by omega) (by omega) (by omega)]; omega) hfar hmore hno
    · rw [if_neg q, r9, sb_k]
      exact r_77 hz hB h hf hk1 hX (by have e : (256 : Int32) + nI (X % 9) = nI (256 + X % 9) := ad_n rfl; rw [e, nI_toInt (by omega)]; omega) hfar hmore hno
  show RT8 (f_L_refuses z b (nI X) M) 1 _
  unfold f_L_refuses f_L_refuses_b0
  refine s_q (u_about (w := 0) (by omega)) hz hB h f8_refl (fun M1 h1 f1 => ?_)
  rw [r50, sb_k, nm_k, e0, nI_add]
  refine s_q (u_lane (l := 0) (w := 0) (by omega) (by omega)) hz hB h1 f1 (fun M2 h2 f2 => ?_)
  rw [sb_k, nm_k, e1, nI_add, r2, sb_k]
  by_cases q : nI (X % 2) = 0
  · rw [if_pos q, r99, sb_k]
    refine h50 h2 f2 ?_
    rw [sb_t p1 (by omega) (by omega) (by omega)]
    omega
  · rw [if_neg q, r99, sb_k]
    refine h50 h2 f2 ?_
    have e : (13 : Int32) + nI (X % 99) = nI (13 + X % 99) := ad_n rfl
    rw [e, nI_toInt (by omega)]
    omega)
end UB
