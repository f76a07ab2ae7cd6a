section RX
variable {z : Sh9} {M M' M1 M2 M6 N N' : Mem9} {g x y x0 n c b sg B B' l a A gg w h d2 d3 d4 d5 S : Nat} {Q Q' Q0 R p r : Nat → Int32} {g0 g1 g2 len : Int32}
/-! simulate -/
theorem sh_ok (y : Int64) : ∃ w, w < 2 ^ 31 ∧ Int64.toInt32 (UInt64.toInt64 (Int64.toUInt64 y >>> (Int64.toUInt64 (Int32.toInt64 (33 : Int32)) &&& Int64.toUInt64 63))) = nI w := by
  have e : ∀ u : UInt64, UInt64.toInt64 u = lN u.toNat := fun u => by
    apply Int64.toBitVec_inj.mp
    apply BitVec.eq_of_toNat_eq
    show u.toBitVec.toNat = (BitVec.ofNat 64 u.toNat).toNat
    rw [BitVec.toNat_ofNat]
    exact (Nat.mod_eq_of_lt u.toBitVec.isLt).symm
  refine ⟨(Int64.toUInt64 y >>> (Int64.toUInt64 (Int32.toInt64 (33 : Int32)) &&& Int64.toUInt64 63)).toNat, ?_, by rw [e, lN_i]⟩
  have e2 : (Int64.toUInt64 (Int32.toInt64 (33 : Int32)) &&& Int64.toUInt64 63) = 33 := by decide
  have h := (Int64.toUInt64 y).toNat_lt
  rw [e2, UInt64.toNat_shiftRight, Nat.shiftRight_eq_div_pow, show UInt64.toNat 33 % 64 = 33 from by decide]
  omega
/-- a turn on both sides -/
def JT8 (a : Nat) (Q : Nat → Int32) (fc fm : Mem9 → Re9) : Prop := ∃ Q' : Nat → Int32, RI8 Q' ∧ (∀ M B, GR8 M (a + 23) Q B → ∃ M', fc M = some (.inl none, M') ∧ F8 M M' (a + 23) 21 ∧ GR8 M' (a + 23) Q' (B + 180)) ∧ (∀ N, N (a + 386) = Q → ∃ N', fm N = some (.inl none, N') ∧ N8 (a + 383) (a + 386) N N' ∧ N' (a + 386) = Q')
theorem jt_v {fc fm : Mem9 → Re9} (hQ : RI8 Q) (h1 : ∀ M B, GR8 M (a + 23) Q B → fc M = some (.inl none, M)) (h2 : ∀ N, N (a + 386) = Q → fm N = some (.inl none, N)) : JT8 a Q fc fm := ⟨Q, hQ, fun M B h => ⟨M, h1 M B h, f8_refl, g8_mono h (by omega)⟩, fun N h => ⟨N, h2 N h, n8_refl, h⟩⟩
theorem jt_of {fc fm fc' fm' : Mem9 → Re9} (h : JT8 a Q fc fm) (e1 : ∀ M, fc' M = fc M) (e2 : ∀ M, fm' M = fm M) : JT8 a Q fc' fm' := by
  rw [show fc' = fc from funext e1, show fm' = fm from funext e2]
  exact h
/-- a vehicle, perhaps -/
theorem jt_arr {lost fol : Int32} (hz : HZ8 z a) (hQ : RI8 Q) (hl : l < 1000) (hlo : b9 lost) (hfo : b9 fol) : JT8 a Q (fun M => bi9 (f_X0_addVehicle z (a + 23) (nI l) len lost fol M) fun _ M => rv9 M) (fun N => bi9 (f_X3_canArrive z (a + 386) (nI l) len N) fun v M => if v = 0 then rv9 M else bi9 (f_X3_arriveOn z (a + 386) (nI l) len lost fol M) fun _ M => rv9 M) := by
  by_cases hc : ca8 Q l len
  · refine ⟨qa8 l len lost fol Q, ri_qa hQ hc.1 hc.2.1.1 hc.2.1.2 hc.2.2 hlo hfo, fun M B h => ?_, fun N hN => ?_⟩
    · obtain ⟨M', t, f, g'⟩ := x0_addV (hz_C hz) h hc.1 hc.2.1.1 hc.2.1.2 hlo hfo hc.2.2
      refine ⟨M', ?_, f, g8_mono g' (by omega)⟩
      show bi9 (f_X0_addVehicle z (a + 23) (nI l) len lost fol M) _ = _
      rw [t, bi_k]
      rfl
    · have t := m_arrive (M := N) (x := a + 386) (l := l) (len := len) (hz_try hz) (by rw [hN]; exact hQ) (by rw [hN]; exact hc.1) (by rw [hN]; exact hc.2.2) hlo hfo
      rw [hN] at t
      refine ⟨pu_R N (a + 386) (qa8 l len lost fol Q), ?_, n8_R, row_R⟩
      show bi9 (f_X3_canArrive z (a + 386) (nI l) len N) _ = _
      rw [ma_can (hz_try hz) hN hQ hl, bi_k, if_pos hc, if_neg (by decide), t, bi_k]
      rfl
  · refine jt_v hQ (fun M B h => ?_) (fun N hN => ?_)
    · rw [xa_no (hz_C hz) h hl hc, bi_k]
      rfl
    · rw [ma_can (hz_try hz) hN hQ hl, bi_k, if_neg hc, if_pos rfl]
      rfl
theorem jt_all (hz : HZ8 z a) (hQ : RI8 Q) (hw : w < 2 ^ 31) : JT8 a Q (fun M => f_X2_doTurn z a (nI w) M) (fun N => f_X3_turn z (a + 383) (nI w) N) := by
  obtain ⟨q, hq, hq2⟩ : ∃ q, q = w / 8 ∧ q < 2 ^ 31 := ⟨_, rfl, by omega⟩
  obtain ⟨k, hk, hk8⟩ : ∃ k, k = w % 8 ∧ k < 8 := ⟨_, rfl, by omega⟩
  have d8 : dv9 (nI w) 8 = some (nI q) := dv_n (D := 8) (d := 8) rfl (by omega) hw (by omega) hq.symm
  have r8 : rm9 (nI w) 8 = some (nI k) := rm_n (D := 8) (d := 8) rfl (by omega) hw (by omega) hk.symm
  have r3 : rm9 (nI q) 3 = some (nI (q % 3)) := rm_n (D := 3) (d := 3) rfl (by omega) hq2 (by omega) rfl
  have d4 : dv9 (nI q) 4 = some (nI (q / 4)) := dv_n (D := 4) (d := 4) rfl (by omega) hq2 (by omega) rfl
  have r11 : rm9 (nI (q / 4)) 11 = some (nI (q / 4 % 11)) := rm_n (D := 11) (d := 11) rfl (by omega) (by omega) (by omega) rfl
  have d64 : dv9 (nI q) 64 = some (nI (q / 64)) := dv_n (D := 64) (d := 64) rfl (by omega) hq2 (by omega) rfl
  have r648 : rm9 (nI (q / 64)) 8 = some (nI (q / 64 % 8)) := rm_n (D := 8) (d := 8) rfl (by omega) (by omega) (by omega) rfl
  have d512 : dv9 (nI q) 512 = some (nI (q / 512)) := dv_n (D := 512) (d := 512) rfl (by omega) hq2 (by omega) rfl
  have r5124 : rm9 (nI (q / 512)) 4 = some (nI (q / 512 % 4)) := rm_n (D := 4) (d := 4) rfl (by omega) (by omega) (by omega) rfl
  have r44 : rm9 (nI (q / 4)) 4 = some (nI (q / 4 % 4)) := rm_n (D := 4) (d := 4) rfl (by omega) (by omega) (by omega) rfl
  have r20 : rm9 (nI q) 20 = some (nI (q % 20)) := rm_n (D := 20) (d := 20) rfl (by omega) hq2 (by omega) rfl
  have hl : q % 3 < 1000 := by omega
  by_cases k3 : k < 3
  · -- a vehicle
    have hb : ∀ i : Nat, b9 (if nI i = 0 then (1 : Int32) else 0) := fun i => int_or _
    refine jt_of (jt_arr (len := 2 + nI (q / 4 % 11)) hz hQ hl (hb (q / 64 % 8)) (hb (q / 512 % 4))) (fun M => ?_) (fun M => ?_)
    · have e44 : f_X2_doTurn_b44 z a (nI q) M = bi9 (f_X0_addVehicle z (a + 23) (nI (q % 3)) (2 + nI (q / 4 % 11)) (if nI (q / 64 % 8) = 0 then (1 : Int32) else 0) (if nI (q / 512 % 4) = 0 then (1 : Int32) else 0) M) fun _ M => rv9 M := by
        unfold f_X2_doTurn_b44
        rw [hz_rC hz, sb_k, r3, sb_k, d4, sb_k, r11, sb_k, d64, sb_k, r648, sb_k]
        have e74 : ∀ u : Int32, f_X2_doTurn_b74 z (nI q) u (2 + nI (q / 4 % 11)) (nI (q % 3)) (a + 23) M = bi9 (f_X0_addVehicle z (a + 23) (nI (q % 3)) (2 + nI (q / 4 % 11)) u (if nI (q / 512 % 4) = 0 then (1 : Int32) else 0) M) fun _ M => rv9 M := by
          intro u
          unfold f_X2_doTurn_b74
          rw [d512, sb_k, r5124, sb_k]
          by_cases e : nI (q / 512 % 4) = 0
          · rw [if_pos e, if_pos e]
            unfold f_X2_doTurn_b89
            rw [iv_k (hz_C hz).1]
          · rw [if_neg e, if_neg e]
            unfold f_X2_doTurn_b89
            rw [iv_k (hz_C hz).1]
        by_cases e : nI (q / 64 % 8) = 0
        · rw [if_pos e, if_pos e, e74]
        · rw [if_neg e, if_neg e, e74]
      show f_X2_doTurn z a (nI w) M = _
      unfold f_X2_doTurn
      rw [d8, sb_k, r8, sb_k]
      rcases (show k = 0 ∨ k = 1 ∨ k = 2 by omega) with e | e | e
      · rw [e, if_pos (show nI 0 = 0 from rfl), e44]
      · rw [e, if_neg (show ¬ nI 1 = 0 by decide), if_pos (show nI 1 = 1 from rfl), e44]
      · rw [e, if_neg (show ¬ nI 2 = 0 by decide), if_neg (show ¬ nI 2 = 1 by decide), if_pos (show nI 2 = 2 from rfl), e44]
    · show f_X3_turn z (a + 383) (nI w) M = _
      unfold f_X3_turn
      rw [d8, sb_k, r3, sb_k, r8, sb_k, if_neg (show ¬ (3 : Int32) ≤ nI k from nI_ge (b := 3) k3 (by decide)), hz_r3 hz, sb_k, d4, sb_k, r11, sb_k]
      refine congrArg _ ?_
      funext v M8
      by_cases e : v = 0
      · rw [if_pos e, if_pos e]
      · rw [if_neg e, if_neg e, sb_k, sb_k, r11, sb_k, d64, sb_k, r648, sb_k]
        have e68 : ∀ u : Int32, f_X3_turn_b68 z (nI q) u (2 + nI (q / 4 % 11)) (nI (q % 3)) (a + 386) M8 = bi9 (f_X3_arriveOn z (a + 386) (nI (q % 3)) (2 + nI (q / 4 % 11)) u (if nI (q / 512 % 4) = 0 then (1 : Int32) else 0) M8) fun _ M => rv9 M := by
          intro u
          unfold f_X3_turn_b68
          rw [d512, sb_k, r5124, sb_k]
          by_cases e : nI (q / 512 % 4) = 0
          · rw [if_pos e, if_pos e]
            rfl
          · rw [if_neg e, if_neg e]
            rfl
        by_cases e2 : nI (q / 64 % 8) = 0
        · rw [if_pos e2, if_pos e2, e68]
        · rw [if_neg e2, if_neg e2, e68]
  · have c0 : ¬ nI k = 0 := nI_n (j := 0) (by omega) (by omega) (by omega)
    have c1 : ¬ nI k = 1 := nI_n (j := 1) (by omega) (by omega) (by omega)
    have c2 : ¬ nI k = 2 := nI_n (j := 2) (by omega) (by omega) (by omega)
    have c3 : (3 : Int32) ≤ nI k := nI_le (a := 3) (by omega) (by omega)
    by_cases k3e : k = 3
    · -- a loop
      have k3n : nI k = 3 := by rw [k3e]; rfl
      have hv : b9 (if nI (q / 4 % 4) = 0 then (1 : Int32) else 0) := int_or _
      have xb : ∀ M, f_X2_doTurn z a (nI w) M = bi9 (f_X0_changeLoop z (a + 23) (nI (q % 3)) (if nI (q / 4 % 4) = 0 then (1 : Int32) else 0) M) fun _ M => rv9 M := fun M => by
        unfold f_X2_doTurn
        rw [d8, sb_k, r8, sb_k, if_neg c0, if_neg c1, if_neg c2, if_pos k3n, hz_rC hz, sb_k, r3, sb_k, d4, sb_k, r44, sb_k]
        by_cases e : nI (q / 4 % 4) = 0
        · rw [if_pos e, if_pos e]
          unfold f_X2_doTurn_b116
          rw [iv_k (hz_C hz).1]
        · rw [if_neg e, if_neg e]
          unfold f_X2_doTurn_b116
          rw [iv_k (hz_C hz).1]
      have mb : ∀ M, f_X3_turn z (a + 383) (nI w) M = bi9 (f_X3_isLane z (a + 386) (nI (q % 3)) M) fun v M => if v = 0 then rv9 M else bi9 (f_X3_loopOn z (a + 386) (nI (q % 3)) (if nI (q / 4 % 4) = 0 then (1 : Int32) else 0) M) fun _ M => rv9 M := fun M => by
        unfold f_X3_turn
        rw [d8, sb_k, r3, sb_k, r8, sb_k, if_pos c3, if_pos k3n, hz_r3 hz, sb_k]
        refine congrArg _ ?_
        funext v M8
        by_cases e : v = 0
        · rw [if_pos e, if_pos e]
        · rw [if_neg e, if_neg e, sb_k, d4, sb_k, r44, sb_k]
          by_cases e2 : nI (q / 4 % 4) = 0
          · rw [if_pos e2, if_pos e2]
            rfl
          · rw [if_neg e2, if_neg e2]
            rfl
      by_cases hlQ : q % 3 < kn8 Q
      · refine ⟨qb8 (q % 3) (if nI (q / 4 % 4) = 0 then (1 : Int32) else 0) Q, ri_qb hQ hlQ hv, fun M B h => ?_, fun N hN => ?_⟩
        · obtain ⟨M', t, f, g'⟩ := x0_loop (hz_C hz) h hlQ hv
          refine ⟨M', ?_, f, g8_mono g' (by omega)⟩
          show f_X2_doTurn z a (nI w) M = _
          rw [xb, t, bi_k]
          rfl
        · have t := m_loopOn (M := N) (x := a + 386) (l := q % 3) (v := if nI (q / 4 % 4) = 0 then (1 : Int32) else 0) (hz_try hz) (by rw [hN]; exact hQ) (by rw [hN]; exact hlQ) hv
          rw [hN] at t
          refine ⟨pu_R N (a + 386) (qb8 (q % 3) (if nI (q / 4 % 4) = 0 then (1 : Int32) else 0) Q), ?_, n8_R, row_R⟩
          show f_X3_turn z (a + 383) (nI w) N = _
          rw [mb, mx_lane (hz_try hz) hN hQ hl, bi_k, if_pos hlQ, if_neg (by decide), t, bi_k]
          rfl
      · refine jt_v hQ (fun M B h => ?_) (fun N hN => ?_)
        · rw [xb, x0_noloop (hz_C hz) h (fun e => hlQ ((in_l hl).mp e)), bi_k]
          rfl
        · rw [mb, mx_lane (hz_try hz) hN hQ hl, bi_k, if_neg hlQ, if_pos rfl]
          rfl
    · have k3n : ¬ nI k = 3 := nI_n (j := 3) k3e (by omega) (by omega)
      by_cases k4e : k = 4
      · -- an arm
        have k4n : nI k = 4 := by rw [k4e]; rfl
        have xb : ∀ M, f_X2_doTurn z a (nI w) M = bi9 (f_X0_mendArm z (a + 23) (nI (q % 3)) M) fun _ M => rv9 M := fun M => by
          unfold f_X2_doTurn
          rw [d8, sb_k, r8, sb_k, if_neg c0, if_neg c1, if_neg c2, if_neg k3n, if_pos k4n, hz_rC hz, sb_k, r3, sb_k, iv_k (hz_C hz).1]
        have mb : ∀ M, f_X3_turn z (a + 383) (nI w) M = bi9 (f_X3_canMend z (a + 386) (nI (q % 3)) M) fun v M => if v = 0 then rv9 M else bi9 (f_X3_mendOn z (a + 386) (nI (q % 3)) M) fun _ M => rv9 M := fun M => by
          unfold f_X3_turn
          rw [d8, sb_k, r3, sb_k, r8, sb_k, if_pos c3, if_neg k3n, if_pos k4n, hz_r3 hz, sb_k]
          refine congrArg _ ?_
          funext v M8
          by_cases e : v = 0
          · rw [if_pos e, if_pos e]
          · rw [if_neg e, if_neg e, sb_k]
        by_cases hc : cm8 Q (q % 3)
        · refine ⟨qm8 (q % 3) Q, ri_qm hQ hc.1, fun M B h => ?_, fun N hN => ?_⟩
          · obtain ⟨M', t, f, g'⟩ := x0_mend (hz_C hz) h hc.1 hc.2
            refine ⟨M', ?_, f, g8_mono g' (by omega)⟩
            show f_X2_doTurn z a (nI w) M = _
            rw [xb, t, bi_k]
            rfl
          · have t := m_mendOn (M := N) (x := a + 386) (l := q % 3) (hz_try hz) (by omega)
            rw [hN] at t
            refine ⟨pu_R N (a + 386) (qm8 (q % 3) Q), ?_, n8_R, row_R⟩
            show f_X3_turn z (a + 383) (nI w) N = _
            rw [mb, mm_can (hz_try hz) hN hQ hl, bi_k, if_pos hc, if_neg (by decide), t, bi_k]
            rfl
        · refine jt_v hQ (fun M B h => ?_) (fun N hN => ?_)
          · rw [xb, xm_no (hz_C hz) h hl hc, bi_k]
            rfl
          · rw [mb, mm_can (hz_try hz) hN hQ hl, bi_k, if_neg hc, if_pos rfl]
            rfl
      · -- ticks
        have k4n : ¬ nI k = 4 := nI_n (j := 4) k4e (by omega) (by omega)
        have e1 : (1 : Int32) + nI (q % 20) = nI (1 + q % 20) := by rw [show (1 : Int32) = nI 1 from rfl, nI_add]
        refine ⟨rn8 (1 + q % 20) Q, ri_rn hQ, fun M B h => ?_, fun N hN => ?_⟩
        · obtain ⟨M', t, f, g'⟩ := x0_lets (N := 1 + q % 20) (hz_C hz) h (by omega) (by omega)
          refine ⟨M', ?_, f, g8_mono g' (by omega)⟩
          show f_X2_doTurn z a (nI w) M = _
          unfold f_X2_doTurn
          rw [d8, sb_k, r8, sb_k, if_neg c0, if_neg c1, if_neg c2, if_neg k3n, if_neg k4n, hz_rC hz, sb_k, r20, sb_k, e1, iv_k (hz_C hz).1, t, bi_k]
          rfl
        · obtain ⟨N', t, n1, e2, -⟩ := m_runOn (M := N) (x0 := a + 383) (x := a + 386) (N := 1 + q % 20) (hz_x0 hz) (hz_mov hz) (hz_try hz) hz_n1 hz_n2 (by omega) (by rw [hN]; exact hQ)
          rw [hN] at t e2
          refine ⟨N', ?_, n1, e2⟩
          show f_X3_turn z (a + 383) (nI w) N = _
          unfold f_X3_turn
          rw [d8, sb_k, r3, sb_k, r8, sb_k, if_pos c3, if_neg k3n, if_neg k4n, hz_r3 hz, sb_k, r20, sb_k, e1, iv_k (hz_x0 hz), t, bi_k]
          rfl
/-- what simulate answers -/
def sv8 (Q' Q0 : Nat → Int32) : Int32 := 10000 * (Q' 5 - Q0 5) + 100 * (Q' 4 - Q0 4) + (if 99 < Q' 2 - Q0 2 then 99 else Q' 2 - Q0 2)
theorem js_loop (hz : HZ8 z a) (hn : n ≤ 60) : ∀ rem k (u : Int64) Q, RI8 Q → k + rem = n → ∃ Q', (∀ M m B B0, rem < m → GR8 M (a + 23) Q B → GR8 M (a + 2) Q0 B0 → ∃ M', fx9 (fun _ _ _ _ _ => none) (f_X2_simulate_b39 z) m a (nI n) u (nI k) M = some (.inl (some (.int (sv8 Q' Q0))), M') ∧ F8 M M' (a + 23) 21) ∧ (∀ N m, rem < m → N (a + 386) = Q → N (a + 385) = Q0 → ∃ N', fx9 (fun _ _ _ _ _ => none) (f_X3_simulate_b45 z) m (a + 383) (nI n) u (nI k) N = some (.inl (some (.int (sv8 Q' Q0))), N') ∧ N8 (a + 383) (a + 386) N N') := by
  intro rem
  induction rem with
  | zero =>
    intro k u Q hQ hk
    refine ⟨Q, fun M m B B0 hm hC hP => ⟨M, ?_, f8_refl⟩, fun N m hm hN hN0 => ⟨N, ?_, n8_refl⟩⟩
    · obtain ⟨m, rfl⟩ : ∃ q, m = q + 1 := ⟨m - 1, by omega⟩
      have p6 : f_X0_total z (a + 2) 6 M = some (.inl (some (.int (Q0 5))), M) := (x0_tot (w := 6) (hz_P hz) hP (by decide) (by decide)).trans rfl
      have p5 : f_X0_total z (a + 2) 5 M = some (.inl (some (.int (Q0 4))), M) := (x0_tot (w := 5) (hz_P hz) hP (by decide) (by decide)).trans rfl
      have p3 : f_X0_total z (a + 2) 3 M = some (.inl (some (.int (Q0 2))), M) := (x0_tot (w := 3) (hz_P hz) hP (by decide) (by decide)).trans rfl
      have c6 : f_X0_total z (a + 23) 6 M = some (.inl (some (.int (Q 5))), M) := (x0_tot (w := 6) (hz_C hz) hC (by decide) (by decide)).trans rfl
      have c5 : f_X0_total z (a + 23) 5 M = some (.inl (some (.int (Q 4))), M) := (x0_tot (w := 5) (hz_C hz) hC (by decide) (by decide)).trans rfl
      have c3 : f_X0_total z (a + 23) 3 M = some (.inl (some (.int (Q 2))), M) := (x0_tot (w := 3) (hz_C hz) hC (by decide) (by decide)).trans rfl
      rw [fx_k]
      unfold f_X2_simulate_b39
      rw [if_pos (nI_le (by omega) (by omega)), hz_rC hz, sb_k, iv_k (hz_C hz).1, c6, bi_k, hz_rP hz, sb_k, iv_k (hz_P hz).1, p6, bi_k, nm_k, sb_k, iv_k (hz_C hz).1, c5, bi_k, sb_k, iv_k (hz_P hz).1, p5, bi_k, nm_k, sb_k, iv_k (hz_C hz).1, c3, bi_k, sb_k, iv_k (hz_P hz).1, p3, bi_k, nm_k]
      rfl
    · obtain ⟨m, rfl⟩ : ∃ q, m = q + 1 := ⟨m - 1, by omega⟩
      have et : ∀ j, j < 121 → ld9 z N 10 (a + 386) (nI j) = some (Q j) := fun j hj => by rw [ld_k (hz_try hz) hj (by decide), hN]
      have en : ∀ j, j < 121 → ld9 z N 10 (a + 385) (nI j) = some (Q0 j) := fun j hj => by rw [ld_k (hz_now hz) hj (by decide), hN0]
      have et2 : ld9 z N 10 (a + 386) 2 = some (Q 2) := et 2 (by decide)
      have et4 : ld9 z N 10 (a + 386) 4 = some (Q 4) := et 4 (by decide)
      have et5 : ld9 z N 10 (a + 386) 5 = some (Q 5) := et 5 (by decide)
      have en2 : ld9 z N 10 (a + 385) 2 = some (Q0 2) := en 2 (by decide)
      have en4 : ld9 z N 10 (a + 385) 4 = some (Q0 4) := en 4 (by decide)
      have en5 : ld9 z N 10 (a + 385) 5 = some (Q0 5) := en 5 (by decide)
      rw [fx_k]
      unfold f_X3_simulate_b45
      rw [if_pos (nI_le (by omega) (by omega)), hz_r3 hz, sb_k, et2, sb_k, hz_r2 hz, sb_k, en2, sb_k, nm_k, sb_k, et5, sb_k, sb_k, en5, sb_k, sb_k, et4, sb_k, sb_k, en4, sb_k]
      unfold sv8
      by_cases e : Q 2 - Q0 2 ≤ 99
      · rw [if_pos e, if_neg (show ¬ (99 : Int32) < Q 2 - Q0 2 by rw [i32_le] at e; rw [i32_lt]; omega)]
        rfl
      · rw [if_neg e, if_pos (show (99 : Int32) < Q 2 - Q0 2 by rw [i32_le] at e; rw [i32_lt]; omega)]
        rfl
  | succ rem ih =>
    intro k u Q hQ hk
    obtain ⟨w, hw, hw2⟩ := sh_ok (u * (6364136223846793005 : Int64) + (1442695040888963407 : Int64))
    obtain ⟨Q1, hQ1, hx, hmd⟩ := jt_all (z := z) (a := a) hz hQ hw
    obtain ⟨Q', hc, hm2⟩ := ih (k + 1) (u * (6364136223846793005 : Int64) + (1442695040888963407 : Int64)) Q1 hQ1 (by omega)
    refine ⟨Q', fun M m B B0 hm hC hP => ?_, fun N m hm hN hN0 => ?_⟩
    · obtain ⟨m, rfl⟩ : ∃ q, m = q + 1 := ⟨m - 1, by omega⟩
      obtain ⟨M1, t0, f1, g1⟩ := hx M B hC
      have t1 : f_X2_doTurn z a (nI w) M = some (.inl none, M1) := t0
      obtain ⟨M2, t2, f2⟩ := hc M1 m (B + 180) B0 (by omega) g1 (g8_out hP f1 (by omega))
      refine ⟨M2, ?_, f8_trans f1 f2⟩
      rw [fx_k]
      unfold f_X2_simulate_b39
      rw [if_neg (nI_ge (by omega) (by omega)), nm_k, hw2, iv_k hz.1.1, t1, bv_k, nI_1]
      exact t2
    · obtain ⟨m, rfl⟩ : ∃ q, m = q + 1 := ⟨m - 1, by omega⟩
      obtain ⟨N1, t0, n1, e1⟩ := hmd N hN
      have t1 : f_X3_turn z (a + 383) (nI w) N = some (.inl none, N1) := t0
      obtain ⟨N2, t2, n2⟩ := hm2 N1 m (by omega) e1 (by
        rw [← hN0]
        funext j
        exact n1 _ _ (by omega) (by omega) (fun _ => by omega))
      refine ⟨N2, ?_, n8_trans n1 n2⟩
      rw [fx_k]
      unfold f_X3_simulate_b45
      rw [if_neg (nI_ge (by omega) (by omega)), nm_k, hw2, iv_k (hz_x0 hz), t1, bv_k, nI_1]
      exact t2
theorem q_simulate {u : Int64} {y : Int32} (hz : HZ8 z a) (h : SR8 M a B) : AG8 a M B (fun M => f_L_simulate z a u y (a + 391) M) (fun M => f_X3_simulate z (a + 383) u y M) := by
  have hP := h.2.1
  have hR := hP.2.1
  by_cases hy : 1 ≤ y.toInt ∧ y.toInt ≤ 60
  · obtain ⟨n, hn, rfl⟩ := y_of (y := y) (n := 60) ⟨by omega, hy.2⟩ (by decide)
    have h1n : 1 ≤ n := by have := hy.1; rw [nI_toInt (by omega)] at this; omega
    obtain ⟨hRt, hnt, hct⟩ := qt_R hR
    obtain ⟨M1, t1, f1, g1⟩ := x0_try hz hP
    obtain ⟨Q', hc, hm⟩ := js_loop (z := z) (a := a) (n := n) (Q0 := M (a + 385)) hz hn n 0 u (qt8 M a) hRt (by omega)
    obtain ⟨M2, t2, f2⟩ := hc M1 FU9 B B (by unfold FU9; omega) g1 (g8_out hP f1 (by omega))
    have f12 := f8_trans f1 f2
    refine ag_look (v := sv8 Q' (M (a + 385))) (M1 := M2) h ?_ f12 ?_
    · have hx : f_X2_simulate z a u (nI n) M = some (.inl (some (.int (sv8 Q' (M (a + 385))))), M2) := by
        unfold f_X2_simulate
        rw [if_neg (show ¬ nI n < 1 from nI_nlt (b := 1) h1n (by omega)), if_pos (show nI n ≤ 60 from nI_le (b := 60) hn (by decide)), hz_rC hz, sb_k, hz_rP hz, sb_k, iv_k (hz_C hz).1, t1, bv_k]
        exact t2
      show f_L_simulate z a u (nI n) (a + 391) M = _
      unfold f_L_simulate
      rw [iv_k hz.1.1, hx, bh_k]
      exact sl_out hz
    · have et := m_trial (v := sv8 Q' (M (a + 385))) hz f12
      have e50 : wr9 (wr9 M2 (a + 391) 0 (sv8 Q' (M (a + 385)))) (a + 383) 0 0 (a + 385) = M (a + 385) := (w0_r (by omega)).trans (e_l5 f12)
      generalize hN0 : wr9 (wr9 M2 (a + 391) 0 (sv8 Q' (M (a + 385)))) (a + 383) 0 0 = N0 at et e50
      obtain ⟨N', t3, n3⟩ := hm (pu_R N0 (a + 386) (qt8 M a)) FU9 (by unfold FU9; omega) row_R (by
        rw [← e50]
        funext k
        exact pr_o (by omega))
      refine ⟨N', ?_, n8_trans n8_R n3⟩
      show f_X3_simulate z (a + 383) u (nI n) _ = _
      unfold f_X3_simulate
      rw [m_in (a := 0) (b := 0) (a' := 1) (b' := 60) (by decide) (by decide), if_pos hy, bi_k, if_neg (by decide)]
      unfold f_X3_simulate_b18
      rw [iv_k (hz_x0 hz), m_ref0 (hz_x0 hz), bi_k, if_pos rfl, hN0, hz_r2 hz, sb_k, hz_r3 hz, sb_k, et, bv_k]
      exact t3
  · refine ag_throw (e := 1) (b := 0) h (by decide) ?_ ?_
    · have hx : f_X2_simulate z a u y M = some (.inr "java/lang/IllegalArgumentException", M) := by
        unfold f_X2_simulate
        by_cases h1 : y < 1
        · rw [if_pos h1]
          rfl
        · rw [if_neg h1, if_neg (by rw [i32_lt, i32_1] at h1; rw [i32_le, i32_60]; omega)]
          rfl
      show f_L_simulate z a u y (a + 391) M = _
      unfold f_L_simulate
      rw [iv_k hz.1.1, hx, bh_r, if_pos rfl]
      rfl
    · show f_X3_simulate z (a + 383) u y M = _
      unfold f_X3_simulate
      rw [m_in (a := 0) (b := 0) (a' := 1) (b' := 60) (by decide) (by decide), if_neg hy, bi_k, if_pos rfl]
      unfold f_X3_simulate_b18
      rw [iv_k (hz_x0 hz), m_ref1 (hz_x0 hz) (by decide), bi_k, if_neg (by decide)]
      rfl
end RX
