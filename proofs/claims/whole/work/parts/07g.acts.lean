section RN
variable {z : Sh9} {M M' M1 M2 N : Mem9} {g x y x0 n c B B' l a A : Nat} {Q Q' : Nat → Int32}
theorem nm_k {α : Type} {e : α} {K : α → Re9} : nm9 e K = K e := rfl
theorem qa_kc {len lost fol : Int32} (hR : RI8 Q) (hl : l < kn8 Q) (h2 : 2 ≤ len.toInt) (h12 : len.toInt ≤ 12) (hc : kc8 Q l < 6) (hlo : b9 lost) (hfo : b9 fol) : kc8 (qa8 l len lost fol Q) l = kc8 Q l + 1 ∧ kn8 (qa8 l len lost fol Q) = kn8 Q := by
  have hI := pI_ad (hR.2.2.2 l hl) hc h2 h12 hlo hfo
  exact ⟨kc_of (pI_cong (fun j hj => ps_l hj) hI), (ri_S hR hl hI).2⟩
/-- the place behind both calls -/
theorem e_now {v : Int32} (c1 : RC8 a M M1) (f2 : F8 M1 M2 (a + 2) 21) : wr9 M2 (a + 391) 0 v (a + 385) = M (a + 385) := by
  rw [wr9_ne (by omega)]
  funext k
  rw [f2 _ _ (by omega), c1 _ _ (by omega) (fun _ => by omega)]
theorem q_arrive {y len lost fol : Int32} (hlo : b9 lost) (hfo : b9 fol) (hz : HZ8 z a) (h : SR8 M a B) : AG8 a M B (fun M => f_L_arrive z a y len lost fol (a + 391) M) (fun M => f_X3_arrive z (a + 383) y len lost fol M) := by
  have hP := h.2.1
  have hR := hP.2.1
  by_cases hy : 0 ≤ y.toInt ∧ y.toInt < (kn8 (M (a + 385)) : Int)
  · obtain ⟨l, hl, rfl⟩ := y_nat hy
    obtain ⟨hI, hA1, hB1, hl3, hc0, -, -⟩ := g8_at hP hl
    have h6 := hI.2.1
    by_cases hlen : 2 ≤ len.toInt ∧ len.toInt ≤ 12
    · have e5 : M (a + 2 + 3 + 6 * l) 5 = nI (kc8 (M (a + 385)) l) := hc0
      by_cases hc : kc8 (M (a + 385)) l < 6
      · obtain ⟨A, M1, hA, hA14, t1, c1, d1, g1⟩ := act_class hz h
        obtain ⟨M2, t2, f2, g2⟩ := x0_addV (hz_P hz) g1 hl hlen.1 hlen.2 hlo hfo hc
        obtain ⟨k1, k2⟩ := qa_kc hR hl hlen.1 hlen.2 hc hlo hfo
        have e6 : M2 (a + 2 + 3 + 6 * l) 5 = nI (kc8 (M (a + 385)) l + 1) := by
          have := (g8_at g2 (by rw [k2]; exact hl)).2.2.2.2.1
          rw [k1] at this
          exact this
        have hx : f_X2_arrive z a (nI l) len lost fol M = some (.inl (some (.int (nI (kc8 (M (a + 385)) l + 1)))), M2) := by
          unfold f_X2_arrive
          rw [iv_k hz.1.1, x2_checkLane hz hP hy, bv_k, x2_length hlen, bv_k, hz_rP hz, sb_k, hz_rg (hz_P hz), sb_k, g8_la (hz_P hz) hl3, sb_k, gf_k ((hz_P hz).2.2.2 l hl3).1, sb_k, e5, if_pos (show nI _ < 6 from nI_lt (b := 6) hc (by decide)), iv_k hz.1.1, t1, bv_k, sb_k, iv_k (hz_P hz).1, t2, bi_k, sb_k, hz_rg (hz_P hz), sb_k, g8_la (hz_P hz) hl3, sb_k, gf_k ((hz_P hz).2.2.2 l hl3).1, sb_k, e6]
          rfl
        refine ag_ret (v := nI (kc8 (M (a + 385)) l + 1)) (M1 := M2) ?_ ?_
        · show f_L_arrive z a (nI l) len lost fol (a + 391) M = _
          unfold f_L_arrive
          rw [iv_k hz.1.1, hx, bh_k]
          exact sl_out hz
        · obtain ⟨M5, t5, e5', k6⟩ := act_model (v := nI (kc8 (M (a + 385)) l + 1)) hz h hA hA14 c1 d1 f2 g2 (Nat.le_refl _)
          have t6 := m_arrive (M := M5) (x := a + 385) (l := l) (len := len) (hz_now hz) (by rw [e5']; exact hR) (by rw [e5']; exact hl) (by rw [e5']; exact hc) hlo hfo
          rw [e5'] at t6
          refine ⟨pu_R M5 (a + 385) (qa8 l len lost fol (M (a + 385))), ?_, k6 _ n8_R row_R⟩
          show f_X3_arrive z (a + 383) (nI l) len lost fol _ = _
          have eq := e_now (v := nI (kc8 (M (a + 385)) l + 1)) c1 f2
          generalize hN : wr9 M2 (a + 391) 0 (nI (kc8 (M (a + 385)) l + 1)) = N at t5 eq ⊢
          have hRN : RI8 (N (a + 385)) := by rw [eq]; exact hR
          unfold f_X3_arrive
          rw [hz_r2 hz, sb_k, m_lane1 (hz_now hz) hRN (by rw [eq]; exact hl), bi_k, if_neg (by decide), em_isLength, bi_k, if_pos hlen, if_neg (by decide), sb_k, m_canArr (hz_now hz) hRN (by rw [eq]; exact hl), bi_k, eq, if_pos (show (2 ≤ len.toInt ∧ len.toInt ≤ 12) ∧ kc8 (M (a + 385)) l < 6 from ⟨hlen, hc⟩), if_neg (by decide)]
          unfold f_X3_arrive_b44
          rw [iv_k (hz_x0 hz), m_ref0 (hz_x0 hz), bi_k, if_pos rfl, iv_k (hz_x0 hz), t5, bv_k, hz_r2 hz, sb_k, t6, bi_k]
          rfl
      · refine ag_throw (e := 3) (b := 0) h (by decide) ?_ ?_
        · have hx : f_X2_arrive z a (nI l) len lost fol M = some (.inr "java/lang/IllegalStateException", M) := by
            unfold f_X2_arrive
            rw [iv_k hz.1.1, x2_checkLane hz hP hy, bv_k, x2_length hlen, bv_k, hz_rP hz, sb_k, hz_rg (hz_P hz), sb_k, g8_la (hz_P hz) hl3, sb_k, gf_k ((hz_P hz).2.2.2 l hl3).1, sb_k, e5, if_neg (show ¬ nI _ < 6 from nI_nlt (b := 6) (by omega) (by omega))]
            rfl
          show f_L_arrive z a (nI l) len lost fol (a + 391) M = _
          unfold f_L_arrive
          rw [iv_k hz.1.1, hx, bh_r, if_neg s_si, if_neg s_se, if_pos rfl]
          rfl
        · show f_X3_arrive z (a + 383) (nI l) len lost fol M = _
          unfold f_X3_arrive
          rw [hz_r2 hz, sb_k, m_lane1 (hz_now hz) hR hl, bi_k, if_neg (by decide), em_isLength, bi_k, if_pos hlen, if_neg (by decide), sb_k, m_canArr (hz_now hz) hR hl, bi_k, if_neg (show ¬ ((2 ≤ len.toInt ∧ len.toInt ≤ 12) ∧ kc8 (M (a + 385)) l < 6) from fun e => hc e.2), if_pos rfl]
          unfold f_X3_arrive_b44
          rw [iv_k (hz_x0 hz), m_ref1 (hz_x0 hz) (by decide), bi_k, if_neg (by decide)]
          rfl
    · refine ag_throw (e := 2) (b := 0) h (by decide) ?_ ?_
      · have hx : f_X2_arrive z a (nI l) len lost fol M = some (.inr "java/lang/IllegalArgumentException", M) := by
          unfold f_X2_arrive
          rw [iv_k hz.1.1, x2_checkLane hz hP hy, bv_k, x2_noLength hlen, bv_r]
        show f_L_arrive z a (nI l) len lost fol (a + 391) M = _
        unfold f_L_arrive
        rw [iv_k hz.1.1, hx, bh_r, if_neg s_ei, if_pos rfl]
        rfl
      · show f_X3_arrive z (a + 383) (nI l) len lost fol M = _
        unfold f_X3_arrive
        rw [hz_r2 hz, sb_k, m_lane1 (hz_now hz) hR hl, bi_k, if_neg (by decide), em_isLength, bi_k, if_neg hlen, if_pos rfl]
        unfold f_X3_arrive_b44
        rw [iv_k (hz_x0 hz), m_ref1 (hz_x0 hz) (by decide), bi_k, if_neg (by decide)]
        rfl
  · refine ag_throw (e := 1) (b := 0) h (by decide) ?_ ?_
    · have hx : f_X2_arrive z a y len lost fol M = some (.inr "java/lang/IndexOutOfBoundsException", M) := by
        unfold f_X2_arrive
        rw [iv_k hz.1.1, x2_noLane hz hP hy, bv_r]
      show f_L_arrive z a y len lost fol (a + 391) M = _
      unfold f_L_arrive
      rw [iv_k hz.1.1, hx, bh_r, if_pos rfl]
      rfl
    · show f_X3_arrive z (a + 383) y len lost fol M = _
      unfold f_X3_arrive
      rw [hz_r2 hz, sb_k, m_lane0 (hz_now hz) hR hy, bi_k, if_pos rfl]
      unfold f_X3_arrive_b44
      rw [iv_k (hz_x0 hz), m_ref1 (hz_x0 hz) (by decide), bi_k, if_neg (by decide)]
      rfl
/-! loop -/
theorem q_loop {y w : Int32} (hw : b9 w) (hz : HZ8 z a) (h : SR8 M a B) : AG8 a M B (fun M => f_L_loop z a y w (a + 391) M) (fun M => f_X3_loop z (a + 383) y w M) := by
  have hP := h.2.1
  have hR := hP.2.1
  by_cases hy : 0 ≤ y.toInt ∧ y.toInt < (kn8 (M (a + 385)) : Int)
  · obtain ⟨l, hl, rfl⟩ := y_nat hy
    obtain ⟨A, M1, hA, hA14, t1, c1, d1, g1⟩ := act_class hz h
    obtain ⟨M2, t2, f2, g2⟩ := x0_loop (hz_P hz) g1 hl hw
    have hx : f_X2_loop z a (nI l) w M = some (.inl (some (.int (rs8 (qb8 l w (M (a + 385))) 4))), M2) := by
      unfold f_X2_loop
      rw [iv_k hz.1.1, x2_checkLane hz hP hy, bv_k, iv_k hz.1.1, t1, bv_k, hz_rP hz, sb_k, iv_k (hz_P hz).1, t2, bi_k, sb_k, show (8 : Int32) = nI 8 from rfl, x0_tot (hz_P hz) g2 (by decide) (by decide), iv_k (hz_P hz).1, bi_k]
      rfl
    refine ag_ret (v := rs8 (qb8 l w (M (a + 385))) 4) (M1 := M2) ?_ ?_
    · show f_L_loop z a (nI l) w (a + 391) M = _
      unfold f_L_loop
      rw [iv_k hz.1.1, hx, bh_k]
      exact sl_out hz
    · obtain ⟨M5, t5, e5, k6⟩ := act_model (v := rs8 (qb8 l w (M (a + 385))) 4) hz h hA hA14 c1 d1 f2 g2 (Nat.le_refl _)
      have t6 := m_loopOn (M := M5) (x := a + 385) (l := l) (v := w) (hz_now hz) (by rw [e5]; exact hR) (by rw [e5]; exact hl) hw
      rw [e5] at t6
      refine ⟨pu_R M5 (a + 385) (qb8 l w (M (a + 385))), ?_, k6 _ n8_R row_R⟩
      show f_X3_loop z (a + 383) (nI l) w _ = _
      have eq := e_now (v := rs8 (qb8 l w (M (a + 385))) 4) c1 f2
      unfold f_X3_loop
      rw [hz_r2 hz, sb_k, m_lane1 (hz_now hz) (by rw [eq]; exact hR) (by rw [eq]; exact hl), bi_k, if_neg (by decide)]
      unfold f_X3_loop_b17
      rw [iv_k (hz_x0 hz), m_ref0 (hz_x0 hz), bi_k, if_pos rfl, iv_k (hz_x0 hz), t5, bv_k, hz_r2 hz, sb_k, t6, bi_k]
      rfl
  · refine ag_throw (e := 1) (b := 0) h (by decide) ?_ ?_
    · have hx : f_X2_loop z a y w M = some (.inr "java/lang/IndexOutOfBoundsException", M) := by
        unfold f_X2_loop
        rw [iv_k hz.1.1, x2_noLane hz hP hy, bv_r]
      show f_L_loop z a y w (a + 391) M = _
      unfold f_L_loop
      rw [iv_k hz.1.1, hx, bh_r, if_pos rfl]
      rfl
    · show f_X3_loop z (a + 383) y w M = _
      unfold f_X3_loop
      rw [hz_r2 hz, sb_k, m_lane0 (hz_now hz) hR hy, bi_k, if_pos rfl]
      unfold f_X3_loop_b17
      rw [iv_k (hz_x0 hz), m_ref1 (hz_x0 hz) (by decide), bi_k, if_neg (by decide)]
      rfl
/-! mend -/
theorem q_mend {y : Int32} (hz : HZ8 z a) (h : SR8 M a B) : AG8 a M B (fun M => f_L_mend z a y (a + 391) M) (fun M => f_X3_mend z (a + 383) y M) := by
  have hP := h.2.1
  have hR := hP.2.1
  by_cases hy : 0 ≤ y.toInt ∧ y.toInt < (kn8 (M (a + 385)) : Int)
  · obtain ⟨l, hl, rfl⟩ := y_nat hy
    have hl3 := (g8_at hP hl).2.2.2.1
    by_cases hc : cb8 (M (a + 385)) l
    · obtain ⟨A, M1, hA, hA14, t1, c1, d1, g1⟩ := act_class hz h
      obtain ⟨M2, t2, f2, g2⟩ := x0_mend (hz_P hz) g1 hl hc
      have hIm := pI_5 (Or.inl rfl : b9 0) (hR.2.2.2 l hl)
      have ek : kn8 (qm8 l (M (a + 385))) = kn8 (M (a + 385)) := (ri_S hR hl hIm).2
      have e6 : M2 (a + 2 + 3 + 6 * l) 6 = pu_s (M (a + 385)) l 1 := by
        have h2 := (g8_at g2 (by rw [ek]; exact hl)).2.1 1 (by omega)
        have h3 : pu_s (qm8 l (M (a + 385))) l 1 = pu_s (M (a + 385)) l 1 := (ps_l (by decide)).trans (pu_u_ne (by decide))
        exact h2.symm.trans h3
      have hx : f_X2_mend z a (nI l) M = some (.inl (some (.int (pu_s (M (a + 385)) l 1))), M2) := by
        unfold f_X2_mend
        rw [iv_k hz.1.1, x2_checkLane hz hP hy, bv_k, hz_rP hz, sb_k, hz_rg (hz_P hz), sb_k, g8_la (hz_P hz) hl3, sb_k, iv_k ((hz_P hz).2.2.2 l hl3).1, x1_mend (hz_P hz) hP hl, bi_k, if_pos hc, if_neg (by decide), iv_k hz.1.1, t1, bv_k, sb_k, iv_k (hz_P hz).1, t2, bi_k, sb_k, hz_rg (hz_P hz), sb_k, g8_la (hz_P hz) hl3, sb_k, gf_k ((hz_P hz).2.2.2 l hl3).1, sb_k, e6]
        rfl
      refine ag_ret (v := pu_s (M (a + 385)) l 1) (M1 := M2) ?_ ?_
      · show f_L_mend z a (nI l) (a + 391) M = _
        unfold f_L_mend
        rw [iv_k hz.1.1, hx, bh_k]
        exact sl_out hz
      · obtain ⟨M5, t5, e5, k6⟩ := act_model (v := pu_s (M (a + 385)) l 1) hz h hA hA14 c1 d1 f2 g2 (Nat.le_refl _)
        have t6 := m_mendOn (M := M5) (x := a + 385) (l := l) (hz_now hz) hl3
        rw [e5] at t6
        refine ⟨pu_R M5 (a + 385) (qm8 l (M (a + 385))), ?_, k6 _ n8_R row_R⟩
        show f_X3_mend z (a + 383) (nI l) _ = _
        have eq := e_now (v := pu_s (M (a + 385)) l 1) c1 f2
        unfold f_X3_mend
        rw [hz_r2 hz, sb_k, m_lane1 (hz_now hz) (by rw [eq]; exact hR) (by rw [eq]; exact hl), bi_k, if_neg (by decide), sb_k, m_canMend (hz_now hz) (by rw [eq]; exact hR) (by rw [eq]; exact hl), bi_k, eq, if_pos hc, if_neg (by decide)]
        unfold f_X3_mend_b32
        rw [iv_k (hz_x0 hz), m_ref0 (hz_x0 hz), bi_k, if_pos rfl, iv_k (hz_x0 hz), t5, bv_k, hz_r2 hz, sb_k, t6, bi_k]
        rfl
    · refine ag_throw (e := 2) (b := 0) h (by decide) ?_ ?_
      · have hx : f_X2_mend z a (nI l) M = some (.inr "java/lang/IllegalStateException", M) := by
          unfold f_X2_mend
          rw [iv_k hz.1.1, x2_checkLane hz hP hy, bv_k, hz_rP hz, sb_k, hz_rg (hz_P hz), sb_k, g8_la (hz_P hz) hl3, sb_k, iv_k ((hz_P hz).2.2.2 l hl3).1, x1_mend (hz_P hz) hP hl, bi_k, if_neg hc, if_pos rfl]
          rfl
        show f_L_mend z a (nI l) (a + 391) M = _
        unfold f_L_mend
        rw [iv_k hz.1.1, hx, bh_r, if_neg s_si, if_pos rfl]
        rfl
      · show f_X3_mend z (a + 383) (nI l) M = _
        unfold f_X3_mend
        rw [hz_r2 hz, sb_k, m_lane1 (hz_now hz) hR hl, bi_k, if_neg (by decide), sb_k, m_canMend (hz_now hz) hR hl, bi_k, if_neg hc, if_pos rfl]
        unfold f_X3_mend_b32
        rw [iv_k (hz_x0 hz), m_ref1 (hz_x0 hz) (by decide), bi_k, if_neg (by decide)]
        rfl
  · refine ag_throw (e := 1) (b := 0) h (by decide) ?_ ?_
    · have hx : f_X2_mend z a y M = some (.inr "java/lang/IndexOutOfBoundsException", M) := by
        unfold f_X2_mend
        rw [iv_k hz.1.1, x2_noLane hz hP hy, bv_r]
      show f_L_mend z a y (a + 391) M = _
      unfold f_L_mend
      rw [iv_k hz.1.1, hx, bh_r, if_pos rfl]
      rfl
    · show f_X3_mend z (a + 383) y M = _
      unfold f_X3_mend
      rw [hz_r2 hz, sb_k, m_lane0 (hz_now hz) hR hy, bi_k, if_pos rfl]
      unfold f_X3_mend_b32
      rw [iv_k (hz_x0 hz), m_ref1 (hz_x0 hz) (by decide), bi_k, if_neg (by decide)]
      rfl
/-! run -/
theorem ab_4 : ab8 Q 4 = Q 3 := rfl
theorem ab_5 : ab8 Q 5 = Q 4 := rfl
theorem q_run {y : Int32} (hz : HZ8 z a) (h : SR8 M a B) : AG8 a M (B + 180) (fun M => f_L_run z a y (a + 391) M) (fun M => f_X3_run z (a + 383) y M) := by
  have hP := h.2.1
  have hR := hP.2.1
  by_cases hy : 1 ≤ y.toInt ∧ y.toInt ≤ 60
  · obtain ⟨w, hw, rfl⟩ := y_of (y := y) (n := 60) ⟨by omega, hy.2⟩ (by decide)
    have h1w : 1 ≤ w := by have := hy.1; rw [nI_toInt (by omega)] at this; omega
    obtain ⟨A, M1, hA, hA14, t1, c1, d1, g1⟩ := act_class hz h
    obtain ⟨M2, t2, f2, g2⟩ := x0_lets (hz_P hz) g1 h1w hw
    have g2' := g8_mono g2 (show B + 3 * w ≤ B + 180 by omega)
    have x4 : f_X0_total z (a + 2) 4 M1 = some (.inl (some (.int (M (a + 385) 3))), M1) := (x0_tot (w := 4) (hz_P hz) g1 (by decide) (by decide)).trans (by rw [ab_4])
    have x5 : f_X0_total z (a + 2) 5 M1 = some (.inl (some (.int (M (a + 385) 4))), M1) := (x0_tot (w := 5) (hz_P hz) g1 (by decide) (by decide)).trans (by rw [ab_5])
    have y4 : f_X0_total z (a + 2) 4 M2 = some (.inl (some (.int (rn8 w (M (a + 385)) 3))), M2) := (x0_tot (w := 4) (hz_P hz) g2 (by decide) (by decide)).trans (by rw [ab_4])
    have y5 : f_X0_total z (a + 2) 5 M2 = some (.inl (some (.int (rn8 w (M (a + 385)) 4))), M2) := (x0_tot (w := 5) (hz_P hz) g2 (by decide) (by decide)).trans (by rw [ab_5])
    have hx : f_X2_run z a (nI w) M = some (.inl (some (.int (rn8 w (M (a + 385)) 3 + rn8 w (M (a + 385)) 4 - (M (a + 385) 3 + M (a + 385) 4)))), M2) := by
      unfold f_X2_run
      rw [if_neg (show ¬ nI w < 1 from nI_nlt (b := 1) h1w (by omega)), if_pos (show nI w ≤ 60 from nI_le (b := 60) hw (by decide)), iv_k hz.1.1, t1, bv_k, hz_rP hz, sb_k, iv_k (hz_P hz).1, x4, bi_k, sb_k, iv_k (hz_P hz).1, x5, bi_k, nm_k, sb_k, iv_k (hz_P hz).1, t2, bi_k, sb_k, iv_k (hz_P hz).1, y4, bi_k, sb_k, iv_k (hz_P hz).1, y5, bi_k]
      rfl
    refine ag_ret (v := rn8 w (M (a + 385)) 3 + rn8 w (M (a + 385)) 4 - (M (a + 385) 3 + M (a + 385) 4)) (M1 := M2) ?_ ?_
    · show f_L_run z a (nI w) (a + 391) M = _
      unfold f_L_run
      rw [iv_k hz.1.1, hx, bh_k]
      exact sl_out hz
    · obtain ⟨M5, t5, e5, k6⟩ := act_model (v := rn8 w (M (a + 385)) 3 + rn8 w (M (a + 385)) 4 - (M (a + 385) 3 + M (a + 385) 4)) hz h hA hA14 c1 d1 f2 g2' (by omega)
      obtain ⟨M6, t6, n6, e6, -⟩ := m_runOn (M := M5) (x0 := a + 383) (x := a + 385) (N := w) (hz_x0 hz) (hz_mov hz) (hz_now hz) (by omega) (by omega) (by omega) (by rw [e5]; exact hR)
      rw [e5] at t6 e6
      refine ⟨M6, ?_, k6 _ n6 e6⟩
      show f_X3_run z (a + 383) (nI w) _ = _
      unfold f_X3_run
      rw [m_in (a := 0) (b := 0) (a' := 1) (b' := 60) (by decide) (by decide), if_pos hy, bi_k, if_neg (by decide)]
      unfold f_X3_run_b18
      rw [iv_k (hz_x0 hz), m_ref0 (hz_x0 hz), bi_k, if_pos rfl, iv_k (hz_x0 hz), t5, bv_k, hz_r2 hz, sb_k, iv_k (hz_x0 hz), t6, bi_k]
      rfl
  · refine ag_throw (e := 1) (b := 0) (sr_mono h (by omega)) (by decide) ?_ ?_
    · have hx : f_X2_run z a y M = some (.inr "java/lang/IllegalArgumentException", M) := by
        unfold f_X2_run
        by_cases h1 : y < 1
        · rw [if_pos h1]
          rfl
        · rw [if_neg h1, if_neg (by rw [i32_lt, i32_1] at h1; rw [i32_le, i32_60]; omega)]
          rfl
      show f_L_run z a y (a + 391) M = _
      unfold f_L_run
      rw [iv_k hz.1.1, hx, bh_r, if_pos rfl]
      rfl
    · show f_X3_run z (a + 383) y M = _
      unfold f_X3_run
      rw [m_in (a := 0) (b := 0) (a' := 1) (b' := 60) (by decide) (by decide), if_neg hy, bi_k, if_pos rfl]
      unfold f_X3_run_b18
      rw [iv_k (hz_x0 hz), m_ref1 (hz_x0 hz) (by decide), bi_k, if_neg (by decide)]
      rfl
/-! set -/
theorem q_set {y w : Int32} (hz : HZ8 z a) (h : SR8 M a B) : AG8 a M B (fun M => f_L_set z a y w (a + 391) M) (fun M => f_X3_set z (a + 383) y w M) := by
  have hP := h.2.1
  have hR := hP.2.1
  by_cases hs : se8 y w
  · obtain ⟨A, M1, hA, hA14, t1, c1, d1, g1⟩ := act_class hz h
    obtain ⟨i, M2, hi, rfl, t2, f2, g2⟩ := x0_set (hz_P hz) g1 hs
    have hx : f_X2_set z a (nI i) w M = some (.inl (some (.int (M (a + 385) (7 + i)))), M2) := by
      unfold f_X2_set
      rw [x2_setting, bi_k, if_pos hs, if_neg (by decide), iv_k hz.1.1, t1, bv_k, hz_rP hz, sb_k, rf_k (hz_P hz).1, sb_k, ld_k (hz_P hz).2.2.1 hi (by decide), sb_k, g1.2.2.2.1 i hi, sb_k, iv_k (hz_P hz).1, t2, bi_k]
      rfl
    refine ag_ret (v := M (a + 385) (7 + i)) (M1 := M2) ?_ ?_
    · show f_L_set z a (nI i) w (a + 391) M = _
      unfold f_L_set
      rw [iv_k hz.1.1, hx, bh_k]
      exact sl_out hz
    · obtain ⟨M5, t5, e5, k6⟩ := act_model (v := M (a + 385) (7 + i)) hz h hA hA14 c1 d1 f2 g2 (Nat.le_refl _)
      refine ⟨pu_R M5 (a + 385) (qs8 i w (M (a + 385))), ?_, k6 _ n8_R row_R⟩
      show f_X3_set z (a + 383) (nI i) w _ = _
      have ew : wr9 M5 (a + 385) (7 + i) w = pu_R M5 (a + 385) (qs8 i w (M (a + 385))) := by
        have e := pr_w (M := M5) (x := a + 385) (R := M5 (a + 385)) (k := 7 + i) (v := w)
        rw [pr_self, e5] at e
        exact e
      unfold f_X3_set
      rw [m_setting, bi_k, if_pos hs, if_neg (by decide)]
      unfold f_X3_set_b14
      rw [iv_k (hz_x0 hz), m_ref0 (hz_x0 hz), bi_k, if_pos rfl, iv_k (hz_x0 hz), t5, bv_k, hz_r2 hz, sb_k, show (7 : Int32) = nI 7 from rfl, nI_add, ld_k (hz_now hz) (by omega) (by decide), sb_k, sb_k, st_k (hz_now hz) (by omega) (by decide), sb_k, ew, e5]
      rfl
  · refine ag_throw (e := 1) (b := 0) h (by decide) ?_ ?_
    · have hx : f_X2_set z a y w M = some (.inr "java/lang/IllegalArgumentException", M) := by
        unfold f_X2_set
        rw [x2_setting, bi_k, if_neg hs, if_pos rfl]
        rfl
      show f_L_set z a y w (a + 391) M = _
      unfold f_L_set
      rw [iv_k hz.1.1, hx, bh_r, if_pos rfl]
      rfl
    · show f_X3_set z (a + 383) y w M = _
      unfold f_X3_set
      rw [m_setting, bi_k, if_neg hs, if_pos rfl]
      unfold f_X3_set_b14
      rw [iv_k (hz_x0 hz), m_ref1 (hz_x0 hz) (by decide), bi_k, if_neg (by decide)]
      rfl
end RN
