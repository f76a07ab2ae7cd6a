section SD
variable {z : Sh9} {M M' M1 M2 : Mem9} {b l k w n A B : Nat} {Q Q' Q0 : Nat → Int32} {s : St8} {x y len : Int32}
/-! simulate: a turn, of the row alone -/
def CT8 (z : Sh9) (Q : Nat → Int32) (f : Nat → Mem9 → Re9) : Prop := ∃ Q' : Nat → Int32, RI8 Q' ∧ ∀ b M B, HZ8 z b → GR8 M (b + 23) Q B → ∃ M', f b M = some (.inl none, M') ∧ F8 M M' (b + 23) 21 ∧ GR8 M' (b + 23) Q' (B + 180)
theorem ct_v {f : Nat → Mem9 → Re9} (hQ : RI8 Q) (h1 : ∀ b M B, HZ8 z b → GR8 M (b + 23) Q B → f b M = some (.inl none, M)) : CT8 z Q f := ⟨Q, hQ, fun b M B hz h => ⟨M, h1 b M B hz h, f8_refl, g8_mono h (by omega)⟩⟩
theorem ct_of {f f' : Nat → Mem9 → Re9} (h : CT8 z Q f) (e1 : ∀ b M, HZ8 z b → f' b M = f b M) : CT8 z Q f' := by
  obtain ⟨Q', h1, h2⟩ := h
  refine ⟨Q', h1, fun b M B hz hg => ?_⟩
  rw [e1 b M hz]
  exact h2 b M B hz hg
theorem ct_arr {lost fol : Int32} (hQ : RI8 Q) (hl : l < 1000) (hlo : b9 lost) (hfo : b9 fol) : CT8 z Q (fun b M => bi9 (f_X0_addVehicle z (b + 23) (nI l) len lost fol M) fun _ M => rv9 M) := by
  by_cases hc : ca8 Q l len
  · refine ⟨qa8 l len lost fol Q, ri_qa hQ hc.1 hc.2.1.1 hc.2.1.2 hc.2.2 hlo hfo, fun b M B hz h => ?_⟩
    obtain ⟨M', t, f, g'⟩ := x0_addV (hz_C hz) h hc.1 hc.2.1.1 hc.2.1.2 hlo hfo hc.2.2
    refine ⟨M', ?_, f, g8_mono g' (by omega)⟩
    show bi9 (f_X0_addVehicle z (b + 23) (nI l) len lost fol M) _ = _
    rw [t, bi_k]
    rfl
  · refine ct_v hQ (fun b M B hz h => ?_)
    rw [xa_no (hz_C hz) h hl hc, bi_k]
    rfl
theorem ct_all (hQ : RI8 Q) (hw : w < 2 ^ 31) : CT8 z Q (fun b M => f_X2_doTurn z b (nI w) M) := by
  obtain ⟨q, hq, hq2⟩ : ∃ q, q = w / 8 ∧ q < 2 ^ 31 := ⟨_, rfl, by omega⟩
  obtain ⟨k, hk, hk8⟩ : ∃ k, k = w % 8 ∧ k < 8 := ⟨_, rfl, by omega⟩
  have d8 : dv9 (nI w) 8 = some (nI q) := dv_n (D := 8) (d := 8) rfl (by omega) hw (by omega) hq.symm
  have r8 : rm9 (nI w) 8 = some (nI k) := rm_n (D := 8) (d := 8) rfl (by omega) hw (by omega) hk.symm
  have r3 : rm9 (nI q) 3 = some (nI (q % 3)) := rm_n (D := 3) (d := 3) rfl (by omega) hq2 (by omega) rfl
  have d4 : dv9 (nI q) 4 = some (nI (q / 4)) := dv_n (D := 4) (d := 4) rfl (by omega) hq2 (by omega) rfl
  have r11 : rm9 (nI (q / 4)) 11 = some (nI (q / 4 % 11)) := rm_n (D := 11) (d := 11) rfl (by omega) (by omega) (by omega) rfl
  have d64 : dv9 (nI q) 64 = some (nI (q / 64)) := dv_n (D := 64) (d := 64) rfl (by omega) hq2 (by omega) rfl
  have r648 : rm9 (nI (q / 64)) 8 = some (nI (q / 64 % 8)) := rm_n (D := 8) (d := 8) rfl (by omega) (by omega) (by omega) rfl
  have d512 : dv9 (nI q) 512 = some (nI (q / 512)) := dv_n (D := 512) (d := 512) rfl (by omega) hq2 (by omega) rfl
  have r5124 : rm9 (nI (q / 512)) 4 = some (nI (q / 512 % 4)) := rm_n (D := 4) (d := 4) rfl (by omega) (by omega) (by omega) rfl
  have r44 : rm9 (nI (q / 4)) 4 = some (nI (q / 4 % 4)) := rm_n (D := 4) (d := 4) rfl (by omega) (by omega) (by omega) rfl
  have r20 : rm9 (nI q) 20 = some (nI (q % 20)) := rm_n (D := 20) (d := 20) rfl (by omega) hq2 (by omega) rfl
  have hl : q % 3 < 1000 := by omega
  by_cases k3 : k < 3
  · have hb : ∀ i : Nat, b9 (if nI i = 0 then (1 : Int32) else 0) := fun i => int_or _
    refine ct_of (ct_arr (len := 2 + nI (q / 4 % 11)) hQ hl (hb (q / 64 % 8)) (hb (q / 512 % 4))) (fun b M hz => ?_)
    have e44 : f_X2_doTurn_b44 z b (nI q) M = bi9 (f_X0_addVehicle z (b + 23) (nI (q % 3)) (2 + nI (q / 4 % 11)) (if nI (q / 64 % 8) = 0 then (1 : Int32) else 0) (if nI (q / 512 % 4) = 0 then (1 : Int32) else 0) M) fun _ M => rv9 M := by
      unfold f_X2_doTurn_b44
      rw [hz_rC hz, sb_k, r3, sb_k, d4, sb_k, r11, sb_k, d64, sb_k, r648, sb_k]
      have e74 : ∀ u : Int32, f_X2_doTurn_b74 z (nI q) u (2 + nI (q / 4 % 11)) (nI (q % 3)) (b + 23) M = bi9 (f_X0_addVehicle z (b + 23) (nI (q % 3)) (2 + nI (q / 4 % 11)) u (if nI (q / 512 % 4) = 0 then (1 : Int32) else 0) M) fun _ M => rv9 M := by
        intro u
        unfold f_X2_doTurn_b74
        rw [d512, sb_k, r5124, sb_k]
        by_cases e : nI (q / 512 % 4) = 0
        · rw [if_pos e, if_pos e]
          unfold f_X2_doTurn_b89
          rw [iv_k (hz_C hz).1]
        · rw [if_neg e, if_neg e]
          unfold f_X2_doTurn_b89
          rw [iv_k (hz_C hz).1]
      by_cases e : nI (q / 64 % 8) = 0
      · rw [if_pos e, if_pos e, e74]
      · rw [if_neg e, if_neg e, e74]
    show f_X2_doTurn z b (nI w) M = _
    unfold f_X2_doTurn
    rw [d8, sb_k, r8, sb_k]
    rcases (show k = 0 ∨ k = 1 ∨ k = 2 by omega) with e | e | e
    · rw [e, if_pos (show nI 0 = 0 from rfl), e44]
    · rw [e, if_neg (show ¬ nI 1 = 0 by decide), if_pos (show nI 1 = 1 from rfl), e44]
    · rw [e, if_neg (show ¬ nI 2 = 0 by decide), if_neg (show ¬ nI 2 = 1 by decide), if_pos (show nI 2 = 2 from rfl), e44]
  · have c0 : ¬ nI k = 0 := nI_n (j := 0) (by omega) (by omega) (by omega)
    have c1 : ¬ nI k = 1 := nI_n (j := 1) (by omega) (by omega) (by omega)
    have c2 : ¬ nI k = 2 := nI_n (j := 2) (by omega) (by omega) (by omega)
    by_cases k3e : k = 3
    · have k3n : nI k = 3 := by rw [k3e]; rfl
      have hv : b9 (if nI (q / 4 % 4) = 0 then (1 : Int32) else 0) := int_or _
      have xb : ∀ b M, HZ8 z b → f_X2_doTurn z b (nI w) M = bi9 (f_X0_changeLoop z (b + 23) (nI (q % 3)) (if nI (q / 4 % 4) = 0 then (1 : Int32) else 0) M) fun _ M => rv9 M := fun b M hz => by
        unfold f_X2_doTurn
        rw [d8, sb_k, r8, sb_k, if_neg c0, if_neg c1, if_neg c2, if_pos k3n, hz_rC hz, sb_k, r3, sb_k, d4, sb_k, r44, sb_k]
        by_cases e : nI (q / 4 % 4) = 0
        · rw [if_pos e, if_pos e]
          unfold f_X2_doTurn_b116
          rw [iv_k (hz_C hz).1]
        · rw [if_neg e, if_neg e]
          unfold f_X2_doTurn_b116
          rw [iv_k (hz_C hz).1]
      refine ct_of ?_ (fun b M hz => xb b M hz)
      by_cases hlQ : q % 3 < kn8 Q
      · refine ⟨qb8 (q % 3) (if nI (q / 4 % 4) = 0 then (1 : Int32) else 0) Q, ri_qb hQ hlQ hv, fun b M B hz h => ?_⟩
        obtain ⟨M', t, f, g'⟩ := x0_loop (hz_C hz) h hlQ hv
        refine ⟨M', ?_, f, g8_mono g' (by omega)⟩
        show bi9 (f_X0_changeLoop z (b + 23) (nI (q % 3)) (if nI (q / 4 % 4) = 0 then (1 : Int32) else 0) M) _ = _
        rw [t, bi_k]
        rfl
      · refine ct_v hQ (fun b M B hz h => ?_)
        rw [x0_noloop (hz_C hz) h (fun e => hlQ ((in_l hl).mp e)), bi_k]
        rfl
    · have k3n : ¬ nI k = 3 := nI_n (j := 3) k3e (by omega) (by omega)
      by_cases k4e : k = 4
      · have k4n : nI k = 4 := by rw [k4e]; rfl
        have xb : ∀ b M, HZ8 z b → f_X2_doTurn z b (nI w) M = bi9 (f_X0_mendArm z (b + 23) (nI (q % 3)) M) fun _ M => rv9 M := fun b M hz => by
          unfold f_X2_doTurn
          rw [d8, sb_k, r8, sb_k, if_neg c0, if_neg c1, if_neg c2, if_neg k3n, if_pos k4n, hz_rC hz, sb_k, r3, sb_k, iv_k (hz_C hz).1]
        refine ct_of ?_ (fun b M hz => xb b M hz)
        by_cases hc : cm8 Q (q % 3)
        · refine ⟨qm8 (q % 3) Q, ri_qm hQ hc.1, fun b M B hz h => ?_⟩
          obtain ⟨M', t, f, g'⟩ := x0_mend (hz_C hz) h hc.1 hc.2
          refine ⟨M', ?_, f, g8_mono g' (by omega)⟩
          show bi9 (f_X0_mendArm z (b + 23) (nI (q % 3)) M) _ = _
          rw [t, bi_k]
          rfl
        · refine ct_v hQ (fun b M B hz h => ?_)
          rw [xm_no (hz_C hz) h hl hc, bi_k]
          rfl
      · have k4n : ¬ nI k = 4 := nI_n (j := 4) k4e (by omega) (by omega)
        have e1 : (1 : Int32) + nI (q % 20) = nI (1 + q % 20) := by rw [show (1 : Int32) = nI 1 from rfl, nI_add]
        refine ⟨rn8 (1 + q % 20) Q, ri_rn hQ, fun b M B hz h => ?_⟩
        obtain ⟨M', t, f, g'⟩ := x0_lets (N := 1 + q % 20) (hz_C hz) h (by omega) (by omega)
        refine ⟨M', ?_, f, g8_mono g' (by omega)⟩
        show f_X2_doTurn z b (nI w) M = _
        unfold f_X2_doTurn
        rw [d8, sb_k, r8, sb_k, if_neg c0, if_neg c1, if_neg c2, if_neg k3n, if_neg k4n, hz_rC hz, sb_k, r20, sb_k, e1, iv_k (hz_C hz).1, t, bi_k]
        rfl
theorem cs_loop (hn : n ≤ 60) : ∀ rem k (u : Int64) Q, RI8 Q → k + rem = n → ∃ Q', ∀ b M m B B0, HZ8 z b → rem < m → GR8 M (b + 23) Q B → GR8 M (b + 2) Q0 B0 → ∃ M', fx9 (fun _ _ _ _ _ => none) (f_X2_simulate_b39 z) m b (nI n) u (nI k) M = some (.inl (some (.int (sv8 Q' Q0))), M') ∧ F8 M M' (b + 23) 21 := by
  intro rem
  induction rem with
  | zero =>
    intro k u Q hQ hk
    refine ⟨Q, fun b M m B B0 hz hm hC hP => ⟨M, ?_, f8_refl⟩⟩
    obtain ⟨m, rfl⟩ : ∃ q, m = q + 1 := ⟨m - 1, by omega⟩
    have p6 : f_X0_total z (b + 2) 6 M = some (.inl (some (.int (Q0 5))), M) := (x0_tot (w := 6) (hz_P hz) hP (by decide) (by decide)).trans rfl
    have p5 : f_X0_total z (b + 2) 5 M = some (.inl (some (.int (Q0 4))), M) := (x0_tot (w := 5) (hz_P hz) hP (by decide) (by decide)).trans rfl
    have p3 : f_X0_total z (b + 2) 3 M = some (.inl (some (.int (Q0 2))), M) := (x0_tot (w := 3) (hz_P hz) hP (by decide) (by decide)).trans rfl
    have c6 : f_X0_total z (b + 23) 6 M = some (.inl (some (.int (Q 5))), M) := (x0_tot (w := 6) (hz_C hz) hC (by decide) (by decide)).trans rfl
    have c5 : f_X0_total z (b + 23) 5 M = some (.inl (some (.int (Q 4))), M) := (x0_tot (w := 5) (hz_C hz) hC (by decide) (by decide)).trans rfl
    have c3 : f_X0_total z (b + 23) 3 M = some (.inl (some (.int (Q 2))), M) := (x0_tot (w := 3) (hz_C hz) hC (by decide) (by decide)).trans rfl
    rw [fx_k]
    unfold f_X2_simulate_b39
    rw [if_pos (nI_le (by omega) (by omega)), hz_rC hz, sb_k, iv_k (hz_C hz).1, c6, bi_k, hz_rP hz, sb_k, iv_k (hz_P hz).1, p6, bi_k, nm_k, sb_k, iv_k (hz_C hz).1, c5, bi_k, sb_k, iv_k (hz_P hz).1, p5, bi_k, nm_k, sb_k, iv_k (hz_C hz).1, c3, bi_k, sb_k, iv_k (hz_P hz).1, p3, bi_k, nm_k]
    rfl
  | succ rem ih =>
    intro k u Q hQ hk
    obtain ⟨w, hw, hw2⟩ := sh_ok (u * (6364136223846793005 : Int64) + (1442695040888963407 : Int64))
    obtain ⟨Q1, hQ1, hx⟩ := ct_all (z := z) hQ hw
    obtain ⟨Q', hc⟩ := ih (k + 1) (u * (6364136223846793005 : Int64) + (1442695040888963407 : Int64)) Q1 hQ1 (by omega)
    refine ⟨Q', fun b M m B B0 hz hm hC hP => ?_⟩
    obtain ⟨m, rfl⟩ : ∃ q, m = q + 1 := ⟨m - 1, by omega⟩
    obtain ⟨M1, t0, f1, g1⟩ := hx b M B hz hC
    have t1 : f_X2_doTurn z b (nI w) M = some (.inl none, M1) := t0
    obtain ⟨M2, t2, f2⟩ := hc b M1 m (B + 180) B0 hz (by omega) g1 (g8_out hP f1 (by omega))
    refine ⟨M2, ?_, f8_trans f1 f2⟩
    rw [fx_k]
    unfold f_X2_simulate_b39
    rw [if_neg (nI_ge (by omega) (by omega)), nm_k, hw2, iv_k hz.1.1, t1, bv_k, nI_1]
    exact t2
theorem q_sim (hR : RI8 s.1) (u : Int64) (h1 : 1 ≤ n) (hn : n ≤ 60) : ∃ v, QU8 z (fun b M => f_L_doSimulate z b u (nI n) M) s v := by
  obtain ⟨Q', hc⟩ := cs_loop (z := z) (n := n) (Q0 := s.1) hn n 0 u s.1 hR (by omega)
  refine ⟨sv8 Q' s.1, fun b M B hz hB h => ?_⟩
  obtain ⟨M1, t1, f1, g1⟩ := x0_copy (hz_C hz) (hz_P hz) (by omega) h.1
  obtain ⟨M2, t2, f2⟩ := hc b M1 FU9 B B hz (by unfold FU9; omega) g1 (g8_out h.1 f1 (by omega))
  refine ⟨M2, cd_ok hz ?_, f8_trans f1 f2⟩
  unfold f_X2_simulate
  rw [if_neg (show ¬ nI n < 1 from nI_nlt (b := 1) h1 (by omega)), if_pos (show nI n ≤ 60 from nI_le (b := 60) hn (by decide)), hz_rC hz, sb_k, hz_rP hz, sb_k, iv_k (hz_C hz).1, t1, bv_k]
  exact t2
end SD
