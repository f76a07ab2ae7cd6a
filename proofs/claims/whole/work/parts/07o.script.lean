section RV
variable {z : Sh9} {M M' M1 M2 M6 N N' : Mem9} {g x y x0 n c b sg B B' l a A gg w h d2 d3 d4 d5 : Nat} {Q Q' R p r : Nat → Int32} {g0 g1 g2 len : Int32}
/-- how a command of the class's ends -/
theorem bz_k {u : Int32} (hu : b9 u) : (if u = 0 then rz9 0 M else rz9 1 M) = some (.inl (some (.int u)), M) := by
  rcases hu with e | e
  · rw [e, if_pos rfl, rz_0]
  · rw [e, if_neg (by decide), rz_1]
theorem z_eq {u : Nat} (hu : u < 2 ^ 31) : nI u = 0 ↔ u = 0 := nI_eq (b := 0) hu (by omega)
theorem ma_1 (hz : HZ8 z a) (h5 : d5 < 4) {f2 : Int32} : mg8_1 z (a + 383) (nI d2) (nI d3) (nI (10 * d3 + d4)) (nI d5) f2 M = bi9 (f_X3_canArrive z (a + 386) (nI d2) (nI (10 * d3 + d4)) M) (fun v M8 => if v = 0 then rz9 0 M8 else bi9 (f_X3_arriveOn z (a + 386) (nI d2) (nI (10 * d3 + d4)) (nI (d5 % 2)) (nI (d5 / 2)) M8) fun v M => if v ≤ 0 then rz9 0 M else rz9 1 M) := by
  unfold mg8_1
  rw [if_neg (show ¬ (4 : Int32) ≤ nI d5 from nI_ge (b := 4) h5 (by decide)), hz_r3 hz, sb_k]
  refine congrArg _ ?_
  funext v M8
  by_cases e : v = 0
  · rw [if_pos e, if_pos e]
  · rw [if_neg e, if_neg e, sb_k]
    unfold f_X3_command_b119 f_X3_command_b130
    rcases (show d5 = 0 ∨ d5 = 1 ∨ d5 = 2 ∨ d5 = 3 by omega) with rfl | rfl | rfl | rfl
    · rw [rm_n (D := 2) (d := 2) (e := 0) rfl (by omega) (by omega) (by omega) rfl, sb_k, if_neg (show ¬ nI 0 = 1 by decide), if_pos (show nI 0 ≤ 1 by decide)]
      rfl
    · rw [rm_n (D := 2) (d := 2) (e := 1) rfl (by omega) (by omega) (by omega) rfl, sb_k, if_pos (show nI 1 = 1 from rfl), if_pos (show nI 1 ≤ 1 by decide)]
      rfl
    · rw [rm_n (D := 2) (d := 2) (e := 0) rfl (by omega) (by omega) (by omega) rfl, sb_k, if_neg (show ¬ nI 0 = 1 by decide), if_neg (show ¬ nI 2 ≤ 1 by decide)]
      rfl
    · rw [rm_n (D := 2) (d := 2) (e := 1) rfl (by omega) (by omega) (by omega) rfl, sb_k, if_pos (show nI 1 = 1 from rfl), if_neg (show ¬ nI 3 ≤ 1 by decide)]
      rfl
theorem jg_1 (hz : HZ8 z a) (hQ : RI8 Q) (hd2 : d2 < 10) (hd5 : d5 < 10) {f2 : Int32} : JG8 a Q (fun M => xg8_1 z a (nI d2) (nI d3) (nI d4) (nI d5) M) (fun N => mg8_1 z (a + 383) (nI d2) (nI d3) (nI (10 * d3 + d4)) (nI d5) f2 N) := by
  by_cases h5 : d5 < 4
  · have hL : b9 (nI (d5 % 2)) := b_d (by omega)
    have hF : b9 (nI (d5 / 2)) := b_d (by omega)
    by_cases hc : ca8 Q d2 (nI (10 * d3 + d4))
    · refine ⟨1, qa8 d2 (nI (10 * d3 + d4)) (nI (d5 % 2)) (nI (d5 / 2)) Q, ri_qa hQ hc.1 hc.2.1.1 hc.2.1.2 hc.2.2 hL hF, Or.inr rfl, fun M B h => ?_, fun N hN => ?_⟩
      · obtain ⟨M', t, f, g'⟩ := x0_addV (hz_C hz) h hc.1 hc.2.1.1 hc.2.1.2 hL hF hc.2.2
        refine ⟨M', ?_, f, g8_mono g' (by omega)⟩
        show xg8_1 z a (nI d2) (nI d3) (nI d4) (nI d5) M = _
        rw [xa_1 hz h5, t, bi_k, if_neg (by decide), rz_1]
      · have t := m_arrive (M := N) (x := a + 386) (l := d2) (len := nI (10 * d3 + d4)) (hz_try hz) (by rw [hN]; exact hQ) (by rw [hN]; exact hc.1) (by rw [hN]; exact hc.2.2) hL hF
        rw [hN] at t
        refine ⟨pu_R N (a + 386) (qa8 d2 (nI (10 * d3 + d4)) (nI (d5 % 2)) (nI (d5 / 2)) Q), ?_, n8_R, row_R⟩
        show mg8_1 z (a + 383) (nI d2) (nI d3) (nI (10 * d3 + d4)) (nI d5) f2 N = _
        rw [ma_1 hz h5, ma_can (hz_try hz) hN hQ (by omega), bi_k, if_pos hc, if_neg (by decide), t, bi_k, if_neg (nI_nle (by omega) (by have := hc.2.2; omega)), rz_1]
    · refine jg_v (v := 0) hQ (Or.inl rfl) (fun M B h => ?_) (fun N hN => ?_)
      · rw [xa_1 hz h5, xa_no (hz_C hz) h (by omega) hc, bi_k, if_pos rfl, rz_0]
      · rw [ma_1 hz h5, ma_can (hz_try hz) hN hQ (by omega), bi_k, if_neg hc, if_pos rfl, rz_0]
  · refine jg_v (v := 0) hQ (Or.inl rfl) (fun M B h => ?_) (fun N hN => ?_)
    · unfold xg8_1
      rw [if_pos (show (3 : Int32) < nI d5 from nI_lt (a := 3) (by omega) (by omega)), rz_0]
    · unfold mg8_1
      rw [if_pos (show (4 : Int32) ≤ nI d5 from nI_le (a := 4) (by omega) (by omega)), rz_0]
theorem jg_2 (hz : HZ8 z a) (hQ : RI8 Q) (hd : DG8 w 2 d2 d3 d4 d5) : JG8 a Q (fun M => xg8_2 z a (nI d2) (nI d3) (nI d4) (nI d5) M) (fun N => mg8_2 z (a + 383) (nI d2) (nI d3) (nI (10 * d3 + d4)) (nI d5) (nI (w % 10000)) N) := by
  obtain ⟨hw, -, h2, h3, h4, h5⟩ := hd
  have hF : w % 10000 = 1000 * d2 + 100 * d3 + 10 * d4 + d5 := by omega
  have hin : ∀ N : Mem9, f_X3_in z (Int32.toInt64 (nI (w % 10000))) 1 60 N = some (.inl (some (.int (if 1 ≤ (nI (w % 10000)).toInt ∧ (nI (w % 10000)).toInt ≤ 60 then 1 else 0))), N) := fun N => m_in (a := 0) (b := 0) (a' := 1) (b' := 60) (by decide) (by decide)
  rw [nI_toInt (by omega)] at hin
  have hin0 : ∀ N : Mem9, ¬ (1 ≤ w % 10000 ∧ w % 10000 ≤ 60) → f_X3_in z (Int32.toInt64 (nI (w % 10000))) 1 60 N = some (.inl (some (.int 0)), N) := fun N hn => by rw [hin, if_neg (by omega)]
  have hin1 : ∀ N : Mem9, (1 ≤ w % 10000 ∧ w % 10000 ≤ 60) → f_X3_in z (Int32.toInt64 (nI (w % 10000))) 1 60 N = some (.inl (some (.int 1)), N) := fun N hn => by rw [hin, if_pos (by omega)]
  have hno : ∀ N : Mem9, ¬ (1 ≤ w % 10000 ∧ w % 10000 ≤ 60) → mg8_2 z (a + 383) (nI d2) (nI d3) (nI (10 * d3 + d4)) (nI d5) (nI (w % 10000)) N = some (.inl (some (.int 0)), N) := fun N hn => by
    unfold mg8_2
    rw [hin0 N hn, bi_k, if_pos rfl, rz_0]
  by_cases e2 : d2 = 0
  · by_cases e3 : d3 = 0
    · subst e2 e3
      have hF2 : w % 10000 = 10 * d4 + d5 := by omega
      by_cases hr : 1 ≤ w % 10000 ∧ w % 10000 ≤ 60
      · refine ⟨1, rn8 (w % 10000) Q, ri_rn hQ, Or.inr rfl, fun M B h => ?_, fun N hN => ?_⟩
        · obtain ⟨M', t, f, g'⟩ := x0_lets (hz_C hz) h hr.1 hr.2
          refine ⟨M', ?_, f, g8_mono g' (by omega)⟩
          show xg8_2 z a (nI 0) (nI 0) (nI d4) (nI d5) M = _
          unfold xg8_2
          rw [if_pos (show nI 0 = 0 from rfl), if_pos (show nI 0 = 0 from rfl), hz_rC hz, sb_k, e_10, ← hF2, iv_k (hz_C hz).1, t, bi_k, if_neg (by decide), rz_1]
        · obtain ⟨N', t, n1, e1, -⟩ := m_runOn (M := N) (x0 := a + 383) (x := a + 386) (N := w % 10000) (hz_x0 hz) (hz_mov hz) (hz_try hz) hz_n1 hz_n2 (by omega) (by rw [hN]; exact hQ)
          rw [hN] at t e1
          refine ⟨N', ?_, n1, e1⟩
          show mg8_2 z (a + 383) (nI 0) (nI 0) (nI (10 * 0 + d4)) (nI d5) (nI (w % 10000)) N = _
          unfold mg8_2
          rw [hin1 N hr, bi_k, if_neg (by decide), hz_r3 hz, sb_k, iv_k (hz_x0 hz), t, bi_k, if_neg (rn_nn (by omega) hQ), rz_1]
      · refine jg_v (v := 0) hQ (Or.inl rfl) (fun M B h => ?_) (fun N hN => hno N hr)
        unfold xg8_2
        rw [if_pos (show nI 0 = 0 from rfl), if_pos (show nI 0 = 0 from rfl), hz_rC hz, sb_k, e_10, ← hF2, iv_k (hz_C hz).1, x0_nolets (by rw [nI_toInt (by omega)]; omega), bi_k, if_pos rfl, rz_0]
    · refine jg_v (v := 0) hQ (Or.inl rfl) (fun M B h => ?_) (fun N hN => hno N (by omega))
      unfold xg8_2
      rw [if_pos ((z_eq (by omega)).mpr e2), if_neg (fun e => e3 ((z_eq (by omega)).mp e)), rz_0]
  · refine jg_v (v := 0) hQ (Or.inl rfl) (fun M B h => ?_) (fun N hN => hno N (by omega))
    unfold xg8_2
    rw [if_neg (fun e => e2 ((z_eq (by omega)).mp e)), rz_0]
theorem jg_3 (hz : HZ8 z a) (hQ : RI8 Q) (hd : DG8 w 3 d2 d3 d4 d5) : JG8 a Q (fun M => xg8_3 z a (nI d2) (nI d3) (nI d4) (nI d5) M) (fun N => mg8_3 z (a + 383) (nI d2) (nI d3) (nI (10 * d3 + d4)) (nI d5) (nI (w % 10000)) N) := by
  obtain ⟨hw, -, h2, h3, h4, h5⟩ := hd
  have hrm : rm9 (nI (w % 10000)) 100 = some (nI (10 * d4 + d5)) := rm_n (D := 100) (d := 100) rfl (by omega) (by omega) (by omega) (by omega)
  by_cases e3 : d3 < 2
  · have c1 : ¬ (1 : Int32) < nI d3 := nI_nlt (a := 1) (by omega) (by decide)
    have c2 : ¬ (2 : Int32) ≤ nI d3 := nI_ge (b := 2) (by omega) (by decide)
    by_cases e4 : 10 * d4 + d5 = 0
    · have e4' : d4 = 0 := by omega
      have e5' : d5 = 0 := by omega
      have hv : b9 (nI d3) := b_d e3
      have xb : ∀ M, xg8_3 z a (nI d2) (nI d3) (nI d4) (nI d5) M = f_X2_doGroup_b208 z (nI d3) (nI d2) (a + 23) M := fun M => by
        unfold xg8_3
        rw [if_neg c1, if_pos ((z_eq (by omega)).mpr e4'), if_pos ((z_eq (by omega)).mpr e5'), hz_rC hz, sb_k]
        rcases (show d3 = 0 ∨ d3 = 1 by omega) with rfl | rfl
        · rw [if_neg (show ¬ nI 0 = 1 by decide)]
          rfl
        · rw [if_pos (show nI 1 = 1 from rfl)]
          rfl
      have mb : ∀ M, mg8_3 z (a + 383) (nI d2) (nI d3) (nI (10 * d3 + d4)) (nI d5) (nI (w % 10000)) M = bi9 (f_X3_isLane z (a + 386) (nI d2) M) (fun v M26 => if v = 0 then rz9 0 M26 else f_X3_command_b212 z (nI d3) (nI d2) (a + 386) M26) := fun M => by
        unfold mg8_3
        rw [if_neg c2, hrm, sb_k, if_pos ((z_eq (by omega)).mpr e4), hz_r3 hz, sb_k]
        refine congrArg _ ?_
        funext v M8
        by_cases e : v = 0
        · rw [if_pos e, if_pos e]
        · rw [if_neg e, if_neg e, sb_k]
          rcases (show d3 = 0 ∨ d3 = 1 by omega) with rfl | rfl
          · rw [if_neg (show ¬ nI 0 = 1 by decide)]
            rfl
          · rw [if_pos (show nI 1 = 1 from rfl)]
            rfl
      by_cases hl : d2 < kn8 Q
      · refine ⟨1, qb8 d2 (nI d3) Q, ri_qb hQ hl hv, Or.inr rfl, fun M B h => ?_, fun N hN => ?_⟩
        · obtain ⟨M', t, f, g'⟩ := x0_loop (hz_C hz) h hl hv
          refine ⟨M', ?_, f, g8_mono g' (by omega)⟩
          show xg8_3 z a (nI d2) (nI d3) (nI d4) (nI d5) M = _
          rw [xb]
          unfold f_X2_doGroup_b208
          rw [iv_k (hz_C hz).1, t, bi_k, if_neg (by decide), rz_1]
        · have t := m_loopOn (M := N) (x := a + 386) (l := d2) (v := nI d3) (hz_try hz) (by rw [hN]; exact hQ) (by rw [hN]; exact hl) hv
          rw [hN] at t
          refine ⟨pu_R N (a + 386) (qb8 d2 (nI d3) Q), ?_, n8_R, row_R⟩
          show mg8_3 z (a + 383) (nI d2) (nI d3) (nI (10 * d3 + d4)) (nI d5) (nI (w % 10000)) N = _
          rw [mb, mx_lane (hz_try hz) hN hQ (by omega), bi_k, if_pos hl, if_neg (by decide)]
          unfold f_X3_command_b212
          rw [t, bi_k, if_neg (rs_b hQ hl hv).1, rz_1]
      · refine jg_v (v := 0) hQ (Or.inl rfl) (fun M B h => ?_) (fun N hN => ?_)
        · rw [xb]
          unfold f_X2_doGroup_b208
          rw [iv_k (hz_C hz).1, x0_noloop (hz_C hz) h (fun e => hl ((in_l (by omega)).mp e)), bi_k, if_pos rfl, rz_0]
        · rw [mb, mx_lane (hz_try hz) hN hQ (by omega), bi_k, if_neg hl, if_pos rfl, rz_0]
    · refine jg_v (v := 0) hQ (Or.inl rfl) (fun M B h => ?_) (fun N hN => ?_)
      · unfold xg8_3
        rw [if_neg c1]
        by_cases e4' : d4 = 0
        · rw [if_pos ((z_eq (by omega)).mpr e4'), if_neg (fun e => by have := (z_eq (u := d5) (by omega)).mp e; omega), rz_0]
        · rw [if_neg (fun e => e4' ((z_eq (by omega)).mp e)), rz_0]
      · unfold mg8_3
        rw [if_neg c2, hrm, sb_k, if_neg (fun e => e4 ((z_eq (by omega)).mp e)), rz_0]
  · refine jg_v (v := 0) hQ (Or.inl rfl) (fun M B h => ?_) (fun N hN => ?_)
    · unfold xg8_3
      rw [if_pos (show (1 : Int32) < nI d3 from nI_lt (a := 1) (by omega) (by omega)), rz_0]
    · unfold mg8_3
      rw [if_pos (show (2 : Int32) ≤ nI d3 from nI_le (a := 2) (by omega) (by omega)), rz_0]
theorem jg_4 (hz : HZ8 z a) (hQ : RI8 Q) (hd : DG8 w 4 d2 d3 d4 d5) : JG8 a Q (fun M => xg8_4 z a (nI d2) (nI d3) (nI d4) (nI d5) M) (fun N => mg8_4 z (a + 383) (nI d2) (nI d3) (nI (10 * d3 + d4)) (nI d5) (nI (w % 10000)) N) := by
  obtain ⟨hw, -, h2, h3, h4, h5⟩ := hd
  have hrm : rm9 (nI (w % 10000)) 1000 = some (nI (100 * d3 + 10 * d4 + d5)) := rm_n (D := 1000) (d := 1000) rfl (by omega) (by omega) (by omega) (by omega)
  by_cases e0 : 100 * d3 + 10 * d4 + d5 = 0
  · have xb : ∀ M, xg8_4 z a (nI d2) (nI d3) (nI d4) (nI d5) M = bi9 (f_X0_mendArm z (a + 23) (nI d2) M) (fun v M => if v = 0 then rz9 0 M else rz9 1 M) := fun M => by
      unfold xg8_4
      rw [if_pos ((z_eq (by omega)).mpr (by omega)), if_pos ((z_eq (by omega)).mpr (by omega)), if_pos ((z_eq (by omega)).mpr (by omega)), hz_rC hz, sb_k, iv_k (hz_C hz).1]
    have mb : ∀ M, mg8_4 z (a + 383) (nI d2) (nI d3) (nI (10 * d3 + d4)) (nI d5) (nI (w % 10000)) M = bi9 (f_X3_canMend z (a + 386) (nI d2) M) (fun v M => if v = 0 then rz9 0 M else bi9 (f_X3_mendOn z (a + 386) (nI d2) M) fun v M => if v < 0 then rz9 0 M else rz9 1 M) := fun M => by
      unfold mg8_4
      rw [hrm, sb_k, if_pos ((z_eq (by omega)).mpr e0), hz_r3 hz, sb_k]
      refine congrArg _ ?_
      funext v M8
      by_cases e : v = 0
      · rw [if_pos e, if_pos e]
      · rw [if_neg e, if_neg e, sb_k]
    by_cases hc : cm8 Q d2
    · refine ⟨1, qm8 d2 Q, ri_qm hQ hc.1, Or.inr rfl, fun M B h => ?_, fun N hN => ?_⟩
      · obtain ⟨M', t, f, g'⟩ := x0_mend (hz_C hz) h hc.1 hc.2
        refine ⟨M', ?_, f, g8_mono g' (by omega)⟩
        show xg8_4 z a (nI d2) (nI d3) (nI d4) (nI d5) M = _
        rw [xb, t, bi_k, if_neg (by decide), rz_1]
      · have t := m_mendOn (M := N) (x := a + 386) (l := d2) (hz_try hz) (by have := hQ.2.1; have := hc.1; omega)
        rw [hN] at t
        obtain ⟨h', hh1, hh2⟩ := (hQ.2.2.2 d2 hc.1).2.2.1
        refine ⟨pu_R N (a + 386) (qm8 d2 Q), ?_, n8_R, row_R⟩
        show mg8_4 z (a + 383) (nI d2) (nI d3) (nI (10 * d3 + d4)) (nI d5) (nI (w % 10000)) N = _
        rw [mb, mm_can (hz_try hz) hN hQ (by omega), bi_k, if_pos hc, if_neg (by decide), t, bi_k, hh2, if_neg (nI_pos (by omega)), rz_1]
    · refine jg_v (v := 0) hQ (Or.inl rfl) (fun M B h => ?_) (fun N hN => ?_)
      · rw [xb, xm_no (hz_C hz) h (by omega) hc, bi_k, if_pos rfl, rz_0]
      · rw [mb, mm_can (hz_try hz) hN hQ (by omega), bi_k, if_neg hc, if_pos rfl, rz_0]
  · refine jg_v (v := 0) hQ (Or.inl rfl) (fun M B h => ?_) (fun N hN => ?_)
    · unfold xg8_4
      by_cases q3 : d3 = 0
      · rw [if_pos ((z_eq (by omega)).mpr q3)]
        by_cases q4 : d4 = 0
        · rw [if_pos ((z_eq (by omega)).mpr q4), if_neg (fun e => by have := (z_eq (u := d5) (by omega)).mp e; omega), rz_0]
        · rw [if_neg (fun e => q4 ((z_eq (by omega)).mp e)), rz_0]
      · rw [if_neg (fun e => q3 ((z_eq (by omega)).mp e)), rz_0]
    · unfold mg8_4
      rw [hrm, sb_k, if_neg (fun e => e0 ((z_eq (by omega)).mp e)), rz_0]
theorem jg_5 (hz : HZ8 z a) (hQ : RI8 Q) (hd : DG8 w 5 d2 d3 d4 d5) {f2 : Int32} : JG8 a Q (fun M => xg8_5 z a (nI d2) (nI d3) (nI d4) (nI d5) M) (fun N => mg8_5 z (a + 383) (nI d2) (nI d3) (nI (10 * d3 + d4)) (nI d5) f2 N) := by
  obtain ⟨hw, -, h2, h3, h4, h5⟩ := hd
  by_cases e5 : d5 = 0
  · have xb : ∀ M, xg8_5 z a (nI d2) (nI d3) (nI d4) (nI d5) M = bi9 (f_X0_changeSetting z (a + 23) (nI d2) (nI (10 * d3 + d4)) M) (fun v M => if v = 0 then rz9 0 M else rz9 1 M) := fun M => by
      unfold xg8_5
      rw [if_pos ((z_eq (by omega)).mpr e5), hz_rC hz, sb_k, e_10, iv_k (hz_C hz).1]
    have c1 : ¬ (0 : Int32) < nI d5 := nI_nlt (a := 0) (by omega) (by decide)
    by_cases hs : se8 (nI d2) (nI (10 * d3 + d4))
    · obtain ⟨i, hi, hi2, hi3⟩ := se_nat hs
      have hid : d2 = i := (nI_eq (by omega) (by omega)).mp hi2
      subst hid
      refine ⟨1, qs8 d2 (nI (10 * d3 + d4)) Q, (ri_set hQ hi hi3).1, Or.inr rfl, fun M B h => ?_, fun N hN => ?_⟩
      · obtain ⟨j, M', hj, hj2, t, f, g'⟩ := x0_set (hz_C hz) h hs
        have hjd : d2 = j := (nI_eq (by omega) (by omega)).mp hj2
        subst hjd
        refine ⟨M', ?_, f, g8_mono g' (by omega)⟩
        show xg8_5 z a (nI d2) (nI d3) (nI d4) (nI d5) M = _
        rw [xb, t, bi_k, if_neg (by decide), rz_1]
      · have ew : wr9 N (a + 386) (7 + d2) (nI (10 * d3 + d4)) = pu_R N (a + 386) (qs8 d2 (nI (10 * d3 + d4)) Q) := by
          have e := pr_w (M := N) (x := a + 386) (R := N (a + 386)) (k := 7 + d2) (v := nI (10 * d3 + d4))
          rw [pr_self, hN] at e
          exact e
        refine ⟨pu_R N (a + 386) (qs8 d2 (nI (10 * d3 + d4)) Q), ?_, n8_R, row_R⟩
        show mg8_5 z (a + 383) (nI d2) (nI d3) (nI (10 * d3 + d4)) (nI d5) f2 N = _
        unfold mg8_5
        rw [if_neg c1, m_setting, bi_k, if_pos hs, if_neg (by decide), hz_r3 hz, sb_k, show (7 : Int32) = nI 7 from rfl, nI_add, st_k (hz_try hz) (by omega) (by decide), sb_k, ew, rz_1]
    · refine jg_v (v := 0) hQ (Or.inl rfl) (fun M B h => ?_) (fun N hN => ?_)
      · rw [xb, x0_noset hs, bi_k, if_pos rfl, rz_0]
      · unfold mg8_5
        rw [if_neg c1, m_setting, bi_k, if_neg hs, if_pos rfl, rz_0]
  · refine jg_v (v := 0) hQ (Or.inl rfl) (fun M B h => ?_) (fun N hN => ?_)
    · unfold xg8_5
      rw [if_neg (fun e => e5 ((z_eq (by omega)).mp e)), rz_0]
    · unfold mg8_5
      rw [if_pos (show (0 : Int32) < nI d5 from nI_lt (a := 0) (by omega) (by omega)), rz_0]
theorem mt_of' {j : Nat} (hz : HZ8 z a) (hN : N (a + 386) = Q) (hl : l < 3) (hj : j < 37) : f_X3_of z (a + 386) (nI l) (nI j) N = some (.inl (some (.int (pu_s Q l j))), N) := by
  rw [← hN]
  exact mt_of hz hl hj
theorem jg_6 (hz : HZ8 z a) (hQ : RI8 Q) (hd : DG8 w 6 d2 d3 d4 d5) : JG8 a Q (fun M => xg8_6 z a (nI d2) (nI d3) (nI d4) (nI d5) M) (fun N => mg8_6 z (a + 383) (nI d2) (nI d3) (nI (10 * d3 + d4)) (nI d5) (nI (w % 10000)) N) := by
  obtain ⟨hw, -, h2, h3, h4, h5⟩ := hd
  have hn := hQ.2.1
  have hrm : rm9 (nI (w % 10000)) 100 = some (nI (10 * d4 + d5)) := rm_n (D := 100) (d := 100) rfl (by omega) (by omega) (by omega) (by omega)
  by_cases e0 : 10 * d4 + d5 = 0
  · by_cases hl : d2 < kn8 Q
    · refine jg_v (v := if pu_s Q d2 1 = nI d3 then 1 else 0) hQ (int_or _) (fun M B h => ?_) (fun N hN => ?_)
      · have hl3 := (g8_at h hl).2.2.2.1
        have e6 : M (a + 23 + 3 + 6 * d2) 6 = pu_s Q d2 1 := ((g8_at h hl).2.1 1 (by omega)).symm
        unfold xg8_6
        rw [if_pos ((z_eq (by omega)).mpr (by omega)), if_pos ((z_eq (by omega)).mpr (by omega)), hz_rC hz, sb_k, iv_k (hz_C hz).1, xx_lane (hz_C hz) h (by omega), bi_k, if_pos hl, if_neg (by decide), sb_k, hz_rg (hz_C hz), sb_k, g8_la (hz_C hz) hl3, sb_k, gf_k ((hz_C hz).2.2.2 d2 hl3).1, sb_k, e6]
        by_cases q : pu_s Q d2 1 = nI d3
        · rw [if_pos q, if_pos q, rz_1]
        · rw [if_neg q, if_neg q, rz_0]
      · have eo : f_X3_of z (a + 386) (nI d2) 1 N = some (.inl (some (.int (pu_s Q d2 1))), N) := mt_of' (j := 1) hz hN (by omega) (by decide)
        unfold mg8_6
        rw [hrm, sb_k, if_pos ((z_eq (by omega)).mpr e0), hz_r3 hz, sb_k, mx_lane (hz_try hz) hN hQ (by omega), bi_k, if_pos hl, if_neg (by decide), sb_k, eo, bi_k]
        by_cases q : pu_s Q d2 1 = nI d3
        · rw [if_pos q, if_pos q, rz_1]
        · rw [if_neg q, if_neg q, rz_0]
    · refine jg_v (v := 0) hQ (Or.inl rfl) (fun M B h => ?_) (fun N hN => ?_)
      · unfold xg8_6
        rw [if_pos ((z_eq (by omega)).mpr (by omega)), if_pos ((z_eq (by omega)).mpr (by omega)), hz_rC hz, sb_k, iv_k (hz_C hz).1, xx_lane (hz_C hz) h (by omega), bi_k, if_neg hl, if_pos rfl, rz_0]
      · unfold mg8_6
        rw [hrm, sb_k, if_pos ((z_eq (by omega)).mpr e0), hz_r3 hz, sb_k, mx_lane (hz_try hz) hN hQ (by omega), bi_k, if_neg hl, if_pos rfl, rz_0]
  · refine jg_v (v := 0) hQ (Or.inl rfl) (fun M B h => ?_) (fun N hN => ?_)
    · unfold xg8_6
      by_cases q4 : d4 = 0
      · rw [if_pos ((z_eq (by omega)).mpr q4), if_neg (fun e => by have := (z_eq (u := d5) (by omega)).mp e; omega), rz_0]
      · rw [if_neg (fun e => q4 ((z_eq (by omega)).mp e)), rz_0]
    · unfold mg8_6
      rw [hrm, sb_k, if_neg (fun e => e0 ((z_eq (by omega)).mp e)), rz_0]
theorem jg_7 (hz : HZ8 z a) (hQ : RI8 Q) (hd : DG8 w 7 d2 d3 d4 d5) : JG8 a Q (fun M => xg8_7 z a (nI d2) (nI d3) (nI d4) (nI d5) M) (fun N => mg8_7 z (a + 383) (nI d2) (nI d3) (nI (10 * d3 + d4)) (nI d5) (nI (w % 10000)) N) := by
  obtain ⟨hw, -, h2, h3, h4, h5⟩ := hd
  have hn := hQ.2.1
  have hrm : rm9 (nI (w % 10000)) 1000 = some (nI (100 * d3 + 10 * d4 + d5)) := rm_n (D := 1000) (d := 1000) rfl (by omega) (by omega) (by omega) (by omega)
  by_cases e0 : d3 = 0 ∧ d4 = 0
  · have c1 : ¬ (10 : Int32) ≤ nI (100 * d3 + 10 * d4 + d5) := nI_ge (b := 10) (by omega) (by decide)
    by_cases hl : d2 < kn8 Q
    · refine jg_v (v := if nI d5 < pu_s Q d2 0 then 0 else 1) hQ (by by_cases q : nI d5 < pu_s Q d2 0; exact Or.inl (if_pos q); exact Or.inr (if_neg q)) (fun M B h => ?_) (fun N hN => ?_)
      · have hl3 := (g8_at h hl).2.2.2.1
        have e6 : M (a + 23 + 3 + 6 * d2) 5 = pu_s Q d2 0 := ((g8_at h hl).2.1 0 (by omega)).symm
        unfold xg8_7
        rw [if_pos ((z_eq (by omega)).mpr e0.1), if_pos ((z_eq (by omega)).mpr e0.2), hz_rC hz, sb_k, iv_k (hz_C hz).1, xx_lane (hz_C hz) h (by omega), bi_k, if_pos hl, if_neg (by decide), sb_k, hz_rg (hz_C hz), sb_k, g8_la (hz_C hz) hl3, sb_k, gf_k ((hz_C hz).2.2.2 d2 hl3).1, sb_k, e6]
        by_cases q : nI d5 < pu_s Q d2 0
        · rw [if_pos q, if_pos q, rz_0]
        · rw [if_neg q, if_neg q, rz_1]
      · have eo : f_X3_of z (a + 386) (nI d2) 0 N = some (.inl (some (.int (pu_s Q d2 0))), N) := mt_of' (j := 0) hz hN (by omega) (by decide)
        unfold mg8_7
        rw [hrm, sb_k, if_neg c1, hz_r3 hz, sb_k, mx_lane (hz_try hz) hN hQ (by omega), bi_k, if_pos hl, if_neg (by decide), sb_k, eo, bi_k]
        by_cases q : nI d5 < pu_s Q d2 0
        · rw [if_pos q, if_pos q, rz_0]
        · rw [if_neg q, if_neg q, rz_1]
    · refine jg_v (v := 0) hQ (Or.inl rfl) (fun M B h => ?_) (fun N hN => ?_)
      · unfold xg8_7
        rw [if_pos ((z_eq (by omega)).mpr e0.1), if_pos ((z_eq (by omega)).mpr e0.2), hz_rC hz, sb_k, iv_k (hz_C hz).1, xx_lane (hz_C hz) h (by omega), bi_k, if_neg hl, if_pos rfl, rz_0]
      · unfold mg8_7
        rw [hrm, sb_k, if_neg c1, hz_r3 hz, sb_k, mx_lane (hz_try hz) hN hQ (by omega), bi_k, if_neg hl, if_pos rfl, rz_0]
  · refine jg_v (v := 0) hQ (Or.inl rfl) (fun M B h => ?_) (fun N hN => ?_)
    · unfold xg8_7
      by_cases q3 : d3 = 0
      · rw [if_pos ((z_eq (by omega)).mpr q3), if_neg (fun e => by have := (z_eq (u := d4) (by omega)).mp e; omega), rz_0]
      · rw [if_neg (fun e => q3 ((z_eq (by omega)).mp e)), rz_0]
    · unfold mg8_7
      rw [hrm, sb_k, if_pos (show (10 : Int32) ≤ nI (100 * d3 + 10 * d4 + d5) from nI_le (a := 10) (by omega) (by omega)), rz_0]
theorem jg_8 (hz : HZ8 z a) (hQ : RI8 Q) (hd : DG8 w 8 d2 d3 d4 d5) : JG8 a Q (fun M => xg8_8 z a (nI d2) (nI d3) (nI d4) (nI d5) M) (fun N => mg8_8 z (a + 383) (nI d2) (nI d3) (nI (10 * d3 + d4)) (nI d5) (nI (w % 10000)) N) := by
  obtain ⟨hw, -, h2, h3, h4, h5⟩ := hd
  by_cases e0 : d2 = 0 ∧ d3 = 0
  · have hF : w % 10000 = 10 * d4 + d5 := by omega
    refine jg_v (v := if nI (10 * d4 + d5) < Q 4 then 0 else 1) hQ (by by_cases q : nI (10 * d4 + d5) < Q 4; exact Or.inl (if_pos q); exact Or.inr (if_neg q)) (fun M B h => ?_) (fun N hN => ?_)
    · have t : f_X0_total z (a + 23) 5 M = some (.inl (some (.int (Q 4))), M) := (x0_tot (w := 5) (hz_C hz) h (by decide) (by decide)).trans (by rw [ab_5])
      unfold xg8_8
      rw [if_pos ((z_eq (by omega)).mpr e0.1), if_pos ((z_eq (by omega)).mpr e0.2), hz_rC hz, sb_k, iv_k (hz_C hz).1, t, bi_k, e_10]
      by_cases q : nI (10 * d4 + d5) < Q 4
      · rw [if_pos q, if_pos q, rz_0]
      · rw [if_neg q, if_neg q, rz_1]
    · unfold mg8_8
      rw [hF, if_neg (show ¬ (100 : Int32) ≤ nI (10 * d4 + d5) from nI_ge (b := 100) (by omega) (by decide)), hz_r3 hz, sb_k, show (4 : Int32) = nI 4 from rfl, ld_k (hz_try hz) (by decide) (by decide), sb_k, hN]
      by_cases q : nI (10 * d4 + d5) < Q 4
      · rw [if_pos q, if_pos q, rz_0]
      · rw [if_neg q, if_neg q, rz_1]
  · refine jg_v (v := 0) hQ (Or.inl rfl) (fun M B h => ?_) (fun N hN => ?_)
    · unfold xg8_8
      by_cases q2 : d2 = 0
      · rw [if_pos ((z_eq (by omega)).mpr q2), if_neg (fun e => by have := (z_eq (u := d3) (by omega)).mp e; omega), rz_0]
      · rw [if_neg (fun e => q2 ((z_eq (by omega)).mp e)), rz_0]
    · unfold mg8_8
      rw [if_pos (show (100 : Int32) ≤ nI (w % 10000) from nI_le (a := 100) (by omega) (by omega)), rz_0]
theorem jg_9 (hz : HZ8 z a) (hQ : RI8 Q) (hd : DG8 w 9 d2 d3 d4 d5) : JG8 a Q (fun M => xg8_9 z a (nI d2) (nI d3) (nI d4) (nI d5) M) (fun N => mg8_9 z (a + 383) (nI d2) (nI d3) (nI (10 * d3 + d4)) (nI d5) (nI (w % 10000)) N) := by
  obtain ⟨hw, -, h2, h3, h4, h5⟩ := hd
  have hn := hQ.2.1
  have hrm : rm9 (nI (w % 10000)) 1000 = some (nI (100 * d3 + 10 * d4 + d5)) := rm_n (D := 1000) (d := 1000) rfl (by omega) (by omega) (by omega) (by omega)
  by_cases e0 : d3 = 0 ∧ d4 = 0
  · have c1 : ¬ (10 : Int32) ≤ nI (100 * d3 + 10 * d4 + d5) := nI_ge (b := 10) (by omega) (by decide)
    by_cases hl : d2 < kn8 Q
    · refine jg_v (v := if rs9 (kc8 Q d2) (pu_s Q d2) = nI d5 then 1 else 0) hQ (int_or _) (fun M B h => ?_) (fun N hN => ?_)
      · have hl3 := (g8_at h hl).2.2.2.1
        unfold xg8_9
        rw [if_pos ((z_eq (by omega)).mpr e0.1), if_pos ((z_eq (by omega)).mpr e0.2), hz_rC hz, sb_k, iv_k (hz_C hz).1, xx_lane (hz_C hz) h (by omega), bi_k, if_pos hl, if_neg (by decide), sb_k, hz_rg (hz_C hz), sb_k, g8_la (hz_C hz) hl3, sb_k, iv_k ((hz_C hz).2.2.2 d2 hl3).1, x1_why (hz_C hz) h hl, bi_k]
        by_cases q : rs9 (kc8 Q d2) (pu_s Q d2) = nI d5
        · rw [if_pos q, if_pos q, rz_1]
        · rw [if_neg q, if_neg q, rz_0]
      · have eo := m_whyOf (M := N) (x := a + 386) (l := d2) (hz_try hz) (by rw [hN]; exact hQ) (by rw [hN]; exact hl)
        rw [hN] at eo
        unfold mg8_9
        rw [hrm, sb_k, if_neg c1, hz_r3 hz, sb_k, mx_lane (hz_try hz) hN hQ (by omega), bi_k, if_pos hl, if_neg (by decide), sb_k, eo, bi_k]
        by_cases q : rs9 (kc8 Q d2) (pu_s Q d2) = nI d5
        · rw [if_pos q, if_pos q, rz_1]
        · rw [if_neg q, if_neg q, rz_0]
    · refine jg_v (v := 0) hQ (Or.inl rfl) (fun M B h => ?_) (fun N hN => ?_)
      · unfold xg8_9
        rw [if_pos ((z_eq (by omega)).mpr e0.1), if_pos ((z_eq (by omega)).mpr e0.2), hz_rC hz, sb_k, iv_k (hz_C hz).1, xx_lane (hz_C hz) h (by omega), bi_k, if_neg hl, if_pos rfl, rz_0]
      · unfold mg8_9
        rw [hrm, sb_k, if_neg c1, hz_r3 hz, sb_k, mx_lane (hz_try hz) hN hQ (by omega), bi_k, if_neg hl, if_pos rfl, rz_0]
  · refine jg_v (v := 0) hQ (Or.inl rfl) (fun M B h => ?_) (fun N hN => ?_)
    · unfold xg8_9
      by_cases q3 : d3 = 0
      · rw [if_pos ((z_eq (by omega)).mpr q3), if_neg (fun e => by have := (z_eq (u := d4) (by omega)).mp e; omega), rz_0]
      · rw [if_neg (fun e => q3 ((z_eq (by omega)).mp e)), rz_0]
    · unfold mg8_9
      rw [hrm, sb_k, if_pos (show (10 : Int32) ≤ nI (100 * d3 + 10 * d4 + d5) from nI_le (a := 10) (by omega) (by omega)), rz_0]
theorem jg_of {fc fm fc' fm' : Mem9 → Re9} (h : JG8 a Q fc fm) (e1 : ∀ M, fc' M = fc M) (e2 : ∀ M, fm' M = fm M) : JG8 a Q fc' fm' := by
  rw [show fc' = fc from funext e1, show fm' = fm from funext e2]
  exact h
/-- a group of a script, on both sides -/
theorem jg_all (hz : HZ8 z a) (hQ : RI8 Q) (hw : w < 100000) : JG8 a Q (fun M => f_X2_doGroup z a (nI w) M) (fun N => f_X3_command z (a + 383) (nI (w / 10000)) (nI (w % 10000)) N) := by
  obtain ⟨h, d2, d3, d4, d5, hd⟩ := dg_ex hw
  have hh : w / 10000 = h := by have := hd; unfold DG8 at this; omega
  have h2 := hd.2.2.1
  have h5 := hd.2.2.2.2.2
  rw [hh]
  rcases (show h = 0 ∨ h = 1 ∨ h = 2 ∨ h = 3 ∨ h = 4 ∨ h = 5 ∨ h = 6 ∨ h = 7 ∨ h = 8 ∨ h = 9 by have := hd.2.1; omega) with rfl | rfl | rfl | rfl | rfl | rfl | rfl | rfl | rfl | rfl
  · exact jg_v (v := 0) hQ (Or.inl rfl) (fun M B h => xg_0 hd) (fun N hN => mg_0 hd)
  · exact jg_of (jg_1 hz hQ h2 h5) (fun M => xg_1 hd) (fun M => mg_1 hd)
  · exact jg_of (jg_2 hz hQ hd) (fun M => xg_2 hd) (fun M => mg_2 hd)
  · exact jg_of (jg_3 hz hQ hd) (fun M => xg_3 hd) (fun M => mg_3 hd)
  · exact jg_of (jg_4 hz hQ hd) (fun M => xg_4 hd) (fun M => mg_4 hd)
  · exact jg_of (jg_5 hz hQ hd) (fun M => xg_5 hd) (fun M => mg_5 hd)
  · exact jg_of (jg_6 hz hQ hd) (fun M => xg_6 hd) (fun M => mg_6 hd)
  · exact jg_of (jg_7 hz hQ hd) (fun M => xg_7 hd) (fun M => mg_7 hd)
  · exact jg_of (jg_8 hz hQ hd) (fun M => xg_8 hd) (fun M => mg_8 hd)
  · exact jg_of (jg_9 hz hQ hd) (fun M => xg_9 hd) (fun M => mg_9 hd)
end RV
