section RR
variable {z : Sh9} {M M' M1 M2 M6 N N' : Mem9} {g x y x0 n c b sg B B' l a A gg : Nat} {Q Q' p r : Nat → Int32} {g0 g1 g2 : Int32}
/-! hitsIn -/
theorem g8_hits (h : GR8 M g Q B) (hl : l < kn8 Q) : ∃ x, x ≤ B ∧ M (g + 3 + 6 * l) 15 = nI x := h.2.2.2.2.2.2.1 l hl
theorem q_hitsIn {y : Int32} (hBB : B < 1000000000) (hz : HZ8 z a) (h : SR8 M a B) : AG8 a M B (fun M => f_L_hitsIn z a y (a + 391) M) (fun M => f_X3_hitsIn z (a + 383) y M) := by
  have hP := h.2.1
  have hR := hP.2.1
  by_cases hy : 0 ≤ y.toInt ∧ y.toInt < (kn8 (M (a + 385)) : Int)
  · obtain ⟨l, hl, rfl⟩ := y_nat hy
    have hl3 := (g8_at hP hl).2.2.2.1
    obtain ⟨hRt, hnt, hct⟩ := qt_R hR
    have hlt : l < kn8 (qt8 M a) := by rw [hnt]; exact hl
    obtain ⟨M0, t0, f0, g0⟩ := x0_try hz hP
    obtain ⟨M1, t1, f1, g1⟩ := x0_loop (hz_C hz) g0 hlt (Or.inr rfl : b9 1)
    have hI4 := pI_4 (Or.inr rfl : b9 1) (hRt.2.2.2 l hlt)
    obtain ⟨hRb, hnb⟩ := ri_S hRt hlt hI4
    have hRb' : RI8 (qb8 l 1 (qt8 M a)) := hRb
    have hlb : l < kn8 (qb8 l 1 (qt8 M a)) := by
      have : kn8 (qb8 l 1 (qt8 M a)) = kn8 (qt8 M a) := hnb
      rw [this]; exact hlt
    obtain ⟨hlc, hgg⟩ := g8_lc g1 hlb
    obtain ⟨x, hx1, hx2⟩ := g8_hits g1 hlb
    obtain ⟨M2, t2, f2⟩ := xl_hits hz hl3 hgg (h0 := x) (by omega) 400 1 FU9 M1 _ (by omega) (by unfold FU9; omega) hlc hx2
    have hA := (g8_at g1 hlb).2.1
    rw [← lh_cong _ _ _ _ _ hA] at t2
    have f12 := f8_trans f0 (f8_trans f1 f2)
    generalize hv : lh8 (qb8 l 1 (qt8 M a) 7) (qb8 l 1 (qt8 M a) 8) (qb8 l 1 (qt8 M a) 9) 400 1 (kc8 (qb8 l 1 (qt8 M a)) l) (pu_s (qb8 l 1 (qt8 M a)) l) = v at t2
    refine ag_look (v := v) (M1 := M2) h ?_ f12 ?_
    · have hx : f_X2_hitsIn z a (nI l) M = some (.inl (some (.int v)), M2) := by
        unfold f_X2_hitsIn
        rw [iv_k hz.1.1, x2_checkLane hz hP hy, bv_k, hz_rC hz, sb_k, hz_rP hz, sb_k, iv_k (hz_C hz).1, t0, bv_k, sb_k, iv_k (hz_C hz).1, t1, bi_k, sb_k, hz_rg (hz_C hz), sb_k, g8_la (hz_C hz) hl3, sb_k, gf_k ((hz_C hz).2.2.2 l hl3).1, sb_k, hx2]
        exact t2
      show f_L_hitsIn z a (nI l) (a + 391) M = _
      unfold f_L_hitsIn
      rw [iv_k hz.1.1, hx, bh_k]
      exact sl_out hz
    · have e5 := e_l5 (v := v) f12
      have et := m_trial (v := v) hz f12
      have e50 : wr9 (wr9 M2 (a + 391) 0 v) (a + 383) 0 0 (a + 385) = M (a + 385) := (w0_r (by omega)).trans e5
      generalize hN0 : wr9 (wr9 M2 (a + 391) 0 v) (a + 383) 0 0 = N0 at et e50
      have el : f_X3_lay z (a + 386) (nI l) 4 1 (pu_R N0 (a + 386) (qt8 M a)) = some (.inl none, pu_R (pu_R N0 (a + 386) (qt8 M a)) (a + 386) (qb8 l 1 (qt8 M a))) := by
        have e := m_lay (M := pu_R N0 (a + 386) (qt8 M a)) (x := a + 386) (l := l) (j := 4) (v := 1) (hz_try hz) hl3 (by decide)
        rw [row_R] at e
        exact e
      have h5t : pu_s (qb8 l 1 (qt8 M a)) l 5 = pu_s (M (a + 385)) l 5 := by
        refine (ps_l (by decide)).trans ((pu_u_ne (by decide)).trans ?_)
        exact qt_i (by omega)
      have hloop : ∃ N', fx9 (fun _ _ _ _ => none) (f_X3_hitsIn_b50 z) FU9 (a + 383) (nI l) 1 (pu_R (pu_R N0 (a + 386) (qt8 M a)) (a + 386) (qb8 l 1 (qt8 M a))) = some (.inl (some (.int v)), N') ∧ N8 (a + 383) (a + 386) (pu_R (pu_R N0 (a + 386) (qt8 M a)) (a + 386) (qb8 l 1 (qt8 M a))) N' := by
        have e5n : pu_R (pu_R N0 (a + 386) (qt8 M a)) (a + 386) (qb8 l 1 (qt8 M a)) (a + 385) = M (a + 385) := by
          funext k
          rw [pr_o (by omega), pr_o (by omega), e50]
        by_cases q5 : pu_s (M (a + 385)) l 5 = 0
        · obtain ⟨N', t3, n3⟩ := ml_hits (l := l) hz 400 1 FU9 (pu_R (pu_R N0 (a + 386) (qt8 M a)) (a + 386) (qb8 l 1 (qt8 M a))) (by omega) (by unfold FU9; omega) (by rw [row_R]; exact hRb') (by rw [row_R]; exact hlb) (by rw [row_R, h5t]; exact q5) (by rw [e5n]; exact q5)
          rw [row_R, hv] at t3
          exact ⟨N', t3, n3⟩
        · refine ⟨_, ?_, n8_refl⟩
          have hb : v = -1 := by
            rw [← hv]
            exact lh_broken _ _ _ _ (by rw [h5t]; exact q5)
          have e5m : f_X3_of z (a + 385) (nI l) 5 (pu_R (pu_R N0 (a + 386) (qt8 M a)) (a + 386) (qb8 l 1 (qt8 M a))) = some (.inl (some (.int (pu_s (M (a + 385)) l 5))), pu_R (pu_R N0 (a + 386) (qt8 M a)) (a + 386) (qb8 l 1 (qt8 M a))) := by
            have e := m_of (M := pu_R (pu_R N0 (a + 386) (qt8 M a)) (a + 386) (qb8 l 1 (qt8 M a))) (x := a + 385) (l := l) (j := 5) (hz_now hz) hl3 (by decide)
            rw [e5n] at e
            exact e
          rw [show FU9 = 5999 + 1 from rfl, fx_k]
          unfold f_X3_hitsIn_b50
          rw [if_neg (by decide), hz_r2 hz, sb_k, e5m, bi_k, if_neg q5, hb]
          rfl
      obtain ⟨N', t3, n3⟩ := hloop
      refine ⟨N', ?_, n8_trans (n8_trans n8_R n8_R) n3⟩
      show f_X3_hitsIn z (a + 383) (nI l) _ = _
      unfold f_X3_hitsIn
      rw [hz_r2 hz, sb_k, m_lane1 (hz_now hz) (by rw [e5]; exact hR) (by rw [e5]; exact hl), bi_k, if_neg (by decide)]
      unfold f_X3_hitsIn_b17
      rw [iv_k (hz_x0 hz), m_ref0 (hz_x0 hz), bi_k, if_pos rfl, hN0, hz_r2 hz, sb_k, hz_r3 hz, sb_k, et, bv_k, sb_k, el, bv_k]
      exact t3
  · refine ag_throw (e := 1) (b := 0) h (by decide) ?_ ?_
    · have hx : f_X2_hitsIn z a y M = some (.inr "java/lang/IndexOutOfBoundsException", M) := by
        unfold f_X2_hitsIn
        rw [iv_k hz.1.1, x2_noLane hz hP hy, bv_r]
      show f_L_hitsIn z a y (a + 391) M = _
      unfold f_L_hitsIn
      rw [iv_k hz.1.1, hx, bh_r, if_pos rfl]
      rfl
    · show f_X3_hitsIn z (a + 383) y M = _
      unfold f_X3_hitsIn
      rw [hz_r2 hz, sb_k, m_lane0 (hz_now hz) hR hy, bi_k, if_pos rfl]
      unfold f_X3_hitsIn_b17
      rw [iv_k (hz_x0 hz), m_ref1 (hz_x0 hz) (by decide), bi_k, if_neg (by decide)]
      rfl
/-! coming -/
theorem g8_up (hG : G8 z g) (h : GR8 M g Q B) : f_X0_armsUp z g M = some (.inl (some (.int (au8 Q))), M) := by
  obtain ⟨e2, hn⟩ := g8_2 h
  rw [x0_armsUp hG e2 hn]
  refine congrArg (fun v => some (Sum.inl (some (Value.int v)), M)) (sm_cong (fun l hl => ?_))
  have e : pu_s Q l 1 = M (g + 3 + 6 * l) 6 := (g8_at h hl).2.1 1 (by omega)
  rw [e]
theorem xc_end {G G' : Nat → Int32 → Int32 → Int32 → Int32 → Mem9 → Re9} {N w v : Int32} : f_X2_coming_b57 z G a N w v N M = f_X2_coming_b57 z G' a N w v N M := by
  unfold f_X2_coming_b57
  rw [if_pos (show N ≤ N from Int32.le_refl N), if_pos (show N ≤ N from Int32.le_refl N)]
theorem xc_loop {N : Nat} {w : Int32} (hN : N < 1000) (hz : HZ8 z a) : ∀ rem k m M Q B v, k + rem = N → rem < m → GR8 M (a + 23) Q B → ∃ M', fx9 (fun _ _ _ _ _ _ => none) (f_X2_coming_b57 z) m a (nI N) w v (nI k) M = f_X2_coming_b57 z (fun _ _ _ _ _ _ => none) a (nI N) w (ur8 rem Q v) (nI N) M' ∧ F8 M M' (a + 23) 21 ∧ GR8 M' (a + 23) (rn8 rem Q) (B + 3 * rem) := by
  intro rem
  induction rem with
  | zero =>
    intro k m M Q B v hk hm h
    obtain ⟨m, rfl⟩ : ∃ q, m = q + 1 := ⟨m - 1, by omega⟩
    refine ⟨M, ?_, f8_refl, h⟩
    rw [fx_k, show k = N by omega]
    exact xc_end
  | succ rem ih =>
    intro k m M Q B v hk hm h
    obtain ⟨m, rfl⟩ : ∃ q, m = q + 1 := ⟨m - 1, by omega⟩
    obtain ⟨M1, t1, f1, g1⟩ := x0_lets (N := 1) (hz_C hz) h (by omega) (by omega)
    have g1' : GR8 M1 (a + 23) (tq8 Q) (B + 3) := g1
    have t1' : f_X0_letTicksGo z (a + 23) 1 M = some (.inl (some (.int 1)), M1) := t1
    obtain ⟨M2, t2, f2, g2⟩ := ih (k + 1) m M1 (tq8 Q) (B + 3) (v + au8 (tq8 Q)) (by omega) (by omega) g1'
    refine ⟨M2, ?_, f8_trans f1 f2, ?_⟩
    · rw [fx_k]
      show f_X2_coming_b57 z (fx9 (fun _ _ _ _ _ _ => none) (f_X2_coming_b57 z) m) a (nI N) w v (nI k) M = _
      have e : f_X2_coming_b57 z (fx9 (fun _ _ _ _ _ _ => none) (f_X2_coming_b57 z) m) a (nI N) w v (nI k) M = fx9 (fun _ _ _ _ _ _ => none) (f_X2_coming_b57 z) m a (nI N) w (v + au8 (tq8 Q)) (nI (k + 1)) M1 := by
        generalize fx9 (fun _ _ _ _ _ _ => none) (f_X2_coming_b57 z) m = G
        unfold f_X2_coming_b57
        rw [if_neg (nI_ge (by omega) (by omega)), hz_rC hz, sb_k, iv_k (hz_C hz).1, t1', bi_k, sb_k, iv_k (hz_C hz).1, g8_up (hz_C hz) g1', bi_k, nm_k, nI_1]
      rw [e]
      exact t2
    · rw [show B + 3 * (rem + 1) = B + 3 + 3 * rem by omega]
      exact g2
/-- what coming answers -/
def co8 (Qt Q : Nat → Int32) (N w : Nat) : Int32 := if w = 0 then rn8 N Qt 3 - Q 3 else if w = 1 then rn8 N Qt 4 - Q 4 else if w = 2 then rn8 N Qt 5 - Q 5 else if w = 3 then rs8 (rn8 N Qt) 0 else ur8 N Qt 0
theorem xc_val {N w : Nat} (hz : HZ8 z a) (hw : w < 5) (hP : GR8 M (a + 2) Q B) (hC : GR8 M (a + 23) (rn8 N Q') B') : f_X2_coming_b57 z (fun _ _ _ _ _ _ => none) a (nI N) (nI w) (ur8 N Q' 0) (nI N) M = some (.inl (some (.int (co8 Q' Q N w))), M) := by
  have p4 : f_X0_total z (a + 2) 4 M = some (.inl (some (.int (Q 3))), M) := (x0_tot (w := 4) (hz_P hz) hP (by decide) (by decide)).trans (by rw [ab_4])
  have p5 : f_X0_total z (a + 2) 5 M = some (.inl (some (.int (Q 4))), M) := (x0_tot (w := 5) (hz_P hz) hP (by decide) (by decide)).trans (by rw [ab_5])
  have p6 : f_X0_total z (a + 2) 6 M = some (.inl (some (.int (Q 5))), M) := (x0_tot (w := 6) (hz_P hz) hP (by decide) (by decide)).trans rfl
  have c4 : f_X0_total z (a + 23) 4 M = some (.inl (some (.int (rn8 N Q' 3))), M) := (x0_tot (w := 4) (hz_C hz) hC (by decide) (by decide)).trans (by rw [ab_4])
  have c5 : f_X0_total z (a + 23) 5 M = some (.inl (some (.int (rn8 N Q' 4))), M) := (x0_tot (w := 5) (hz_C hz) hC (by decide) (by decide)).trans (by rw [ab_5])
  have c6 : f_X0_total z (a + 23) 6 M = some (.inl (some (.int (rn8 N Q' 5))), M) := (x0_tot (w := 6) (hz_C hz) hC (by decide) (by decide)).trans rfl
  have c2 : f_X0_total z (a + 23) 2 M = some (.inl (some (.int (rs8 (rn8 N Q') 0))), M) := (x0_tot (w := 2) (hz_C hz) hC (by decide) (by decide)).trans rfl
  unfold f_X2_coming_b57 co8
  rw [if_pos (Int32.le_refl _)]
  rcases (show w = 0 ∨ w = 1 ∨ w = 2 ∨ w = 3 ∨ w = 4 by omega) with rfl | rfl | rfl | rfl | rfl
  · rw [if_pos (show nI 0 = 0 from rfl), hz_rC hz, sb_k, iv_k (hz_C hz).1, c4, bi_k, hz_rP hz, sb_k, iv_k (hz_P hz).1, p4, bi_k]
    rfl
  · rw [if_neg (show ¬ nI 1 = 0 by decide), if_pos (show nI 1 = 1 from rfl), hz_rC hz, sb_k, iv_k (hz_C hz).1, c5, bi_k, hz_rP hz, sb_k, iv_k (hz_P hz).1, p5, bi_k]
    rfl
  · rw [if_neg (show ¬ nI 2 = 0 by decide), if_neg (show ¬ nI 2 = 1 by decide), if_pos (show nI 2 = 2 from rfl), hz_rC hz, sb_k, iv_k (hz_C hz).1, c6, bi_k, hz_rP hz, sb_k, iv_k (hz_P hz).1, p6, bi_k]
    rfl
  · rw [if_neg (show ¬ nI 3 = 0 by decide), if_neg (show ¬ nI 3 = 1 by decide), if_neg (show ¬ nI 3 = 2 by decide), if_pos (show nI 3 = 3 from rfl), hz_rC hz, sb_k, iv_k (hz_C hz).1, c2, bi_k]
    rfl
  · rw [if_neg (show ¬ nI 4 = 0 by decide), if_neg (show ¬ nI 4 = 1 by decide), if_neg (show ¬ nI 4 = 2 by decide), if_neg (show ¬ nI 4 = 3 by decide)]
    rfl
theorem q_coming {y w : Int32} (hz : HZ8 z a) (h : SR8 M a B) : AG8 a M B (fun M => f_L_coming z a y w (a + 391) M) (fun M => f_X3_coming z (a + 383) y w M) := by
  have hP := h.2.1
  have hR := hP.2.1
  have hmthrow : f_X3_coming_b30 z (a + 383) y w 1 (a + 383) M = some (.inl (some (.int 0)), wr9 M (a + 383) 0 1) := by
    unfold f_X3_coming_b30
    rw [iv_k (hz_x0 hz), m_ref1 (hz_x0 hz) (by decide), bi_k, if_neg (by decide)]
    rfl
  have hthrow : f_X2_coming z a y w M = some (.inr "java/lang/IllegalArgumentException", M) → f_X3_coming z (a + 383) y w M = some (.inl (some (.int 0)), wr9 M (a + 383) 0 1) → AG8 a M B (fun M => f_L_coming z a y w (a + 391) M) (fun M => f_X3_coming z (a + 383) y w M) := by
    intro hx hm
    refine ag_throw (e := 1) (b := 0) h (by decide) ?_ hm
    show f_L_coming z a y w (a + 391) M = _
    unfold f_L_coming
    rw [iv_k hz.1.1, hx, bh_r, if_pos rfl]
    rfl
  by_cases hy : 1 ≤ y.toInt ∧ y.toInt ≤ 400
  · obtain ⟨N, hN, rfl⟩ := y_of (y := y) (n := 400) ⟨by omega, hy.2⟩ (by decide)
    have h1N : 1 ≤ N := by have := hy.1; rw [nI_toInt (by omega)] at this; omega
    have c1 : ¬ nI N < 1 := nI_nlt (b := 1) h1N (by omega)
    have c2 : nI N ≤ 400 := nI_le (b := 400) hN (by decide)
    by_cases hw : 0 ≤ w.toInt ∧ w.toInt ≤ 4
    · obtain ⟨w, hw4, rfl⟩ := y_of (n := 4) hw (by decide)
      obtain ⟨hRt, hnt, hct⟩ := qt_R hR
      obtain ⟨M1, t1, f1, g1⟩ := x0_try hz hP
      obtain ⟨M2, t2, f2, g2⟩ := xc_loop (N := N) (w := nI w) (by omega) hz N 0 FU9 M1 (qt8 M a) B 0 (by omega) (by unfold FU9; omega) g1
      have f12 := f8_trans f1 f2
      have hP2 : GR8 M2 (a + 2) (M (a + 385)) B := g8_out hP f12 (by omega)
      rw [xc_val hz (by omega) hP2 g2] at t2
      refine ag_look (v := co8 (qt8 M a) (M (a + 385)) N w) (M1 := M2) h ?_ f12 ?_
      · have hx : f_X2_coming z a (nI N) (nI w) M = some (.inl (some (.int (co8 (qt8 M a) (M (a + 385)) N w))), M2) := by
          unfold f_X2_coming
          rw [if_neg c1, if_pos c2, if_neg (nI_pos (by omega)), if_pos (show nI w ≤ 4 from nI_le (b := 4) hw4 (by decide)), hz_rC hz, sb_k, hz_rP hz, sb_k, iv_k (hz_C hz).1, t1, bv_k]
          exact t2
        show f_L_coming z a (nI N) (nI w) (a + 391) M = _
        unfold f_L_coming
        rw [iv_k hz.1.1, hx, bh_k]
        exact sl_out hz
      · have et := m_trial (v := co8 (qt8 M a) (M (a + 385)) N w) hz f12
        have e50 : wr9 (wr9 M2 (a + 391) 0 (co8 (qt8 M a) (M (a + 385)) N w)) (a + 383) 0 0 (a + 385) = M (a + 385) := (w0_r (by omega)).trans (e_l5 f12)
        generalize hN0 : wr9 (wr9 M2 (a + 391) 0 (co8 (qt8 M a) (M (a + 385)) N w)) (a + 383) 0 0 = N0 at et e50
        have eT : wr9 (pu_R N0 (a + 386) (qt8 M a)) (a + 383) 10 0 (a + 386) = qt8 M a := (wr9_ne (by omega)).trans row_R
        obtain ⟨N1, t3, n3, e3, u3⟩ := m_runOn (M := wr9 (pu_R N0 (a + 386) (qt8 M a)) (a + 383) 10 0) (x0 := a + 383) (x := a + 386) (N := N) (hz_x0 hz) (hz_mov hz) (hz_try hz) hz_n1 hz_n2 (by omega) (by rw [eT]; exact hRt)
        rw [eT, wr_eq] at u3
        rw [eT] at e3
        have e5 : ∀ k, N1 (a + 385) k = M (a + 385) k := fun k => by
          rw [n3 _ _ (by omega) (by omega) (fun _ => by omega), wr_na (by omega), pr_o (by omega), e50]
        refine ⟨N1, ?_, n8_trans (fun q k h1 h2 h3 => ?_) n3⟩
        · show f_X3_coming z (a + 383) (nI N) (nI w) _ = _
          have et2 : ∀ j, j < 121 → ld9 z N1 10 (a + 386) (nI j) = some (rn8 N (qt8 M a) j) := fun j hj => by rw [ld_k (hz_try hz) hj (by decide), e3]
          have en2 : ∀ j, j < 121 → ld9 z N1 10 (a + 385) (nI j) = some (M (a + 385) j) := fun j hj => by rw [ld_k (hz_now hz) hj (by decide), e5]
          unfold f_X3_coming
          rw [m_in (a := 0) (b := 0) (a' := 1) (b' := 400) (by decide) (by decide), if_pos hy, bi_k, if_neg (by decide), m_in (a := 0) (b := 0) (a' := 0) (b' := 4) (by decide) (by decide), if_pos hw, bi_k, if_neg (by decide)]
          unfold f_X3_coming_b30
          rw [iv_k (hz_x0 hz), m_ref0 (hz_x0 hz), bi_k, if_pos rfl, hN0, hz_r2 hz, sb_k, hz_r3 hz, sb_k, et, bv_k, pf_k (hz_x0 hz), sb_k, sb_k, iv_k (hz_x0 hz), t3, bi_k]
          unfold co8
          rcases (show w = 0 ∨ w = 1 ∨ w = 2 ∨ w = 3 ∨ w = 4 by omega) with rfl | rfl | rfl | rfl | rfl
          · rw [if_pos (show nI 0 = 0 from rfl), sb_k, show (3 : Int32) = nI 3 from rfl, et2 3 (by decide), sb_k, sb_k, en2 3 (by decide), sb_k]
            rfl
          · rw [if_neg (show ¬ nI 1 = 0 by decide), if_pos (show nI 1 = 1 from rfl), sb_k, show (4 : Int32) = nI 4 from rfl, et2 4 (by decide), sb_k, sb_k, en2 4 (by decide), sb_k]
            rfl
          · rw [if_neg (show ¬ nI 2 = 0 by decide), if_neg (show ¬ nI 2 = 1 by decide), if_pos (show nI 2 = 2 from rfl), sb_k, show (5 : Int32) = nI 5 from rfl, et2 5 (by decide), sb_k, sb_k, en2 5 (by decide), sb_k]
            rfl
          · have es := m_sum (M := N1) (x := a + 386) (w := 0) (hz_try hz) (by rw [e3]; exact ri_rn hRt) (by decide)
            rw [e3] at es
            have es' : f_X3_sum z (a + 386) 0 N1 = some (.inl (some (.int (rs8 (rn8 N (qt8 M a)) 0))), N1) := es
            rw [if_neg (show ¬ nI 3 = 0 by decide), if_neg (show ¬ nI 3 = 1 by decide), if_neg (show ¬ nI 3 = 2 by decide), if_pos (show nI 3 = 3 from rfl), sb_k, es', bi_k]
            rfl
          · rw [if_neg (show ¬ nI 4 = 0 by decide), if_neg (show ¬ nI 4 = 1 by decide), if_neg (show ¬ nI 4 = 2 by decide), if_neg (show ¬ nI 4 = 3 by decide), gf_k (hz_x0 hz), sb_k, u3]
            rfl
        · have g1 : wr9 (pu_R N0 (a + 386) (qt8 M a)) (a + 383) 10 0 q k = pu_R N0 (a + 386) (qt8 M a) q k := by
            by_cases e : q = a + 383
            · rw [e, wr_nk (h3 e)]
            · exact wr_na e
          rw [g1, pr_o h1]
    · refine hthrow ?_ ?_
      · unfold f_X2_coming
        rw [if_neg c1, if_pos c2]
        by_cases h1 : w < 0
        · rw [if_pos h1]
          rfl
        · rw [if_neg h1, if_neg (by rw [i32_lt, i32_0] at h1; rw [i32_le, show (4 : Int32).toInt = 4 by decide]; omega)]
          rfl
      · unfold f_X3_coming
        rw [m_in (a := 0) (b := 0) (a' := 1) (b' := 400) (by decide) (by decide), if_pos hy, bi_k, if_neg (by decide), m_in (a := 0) (b := 0) (a' := 0) (b' := 4) (by decide) (by decide), if_neg hw, bi_k, if_pos rfl]
        exact hmthrow
  · refine hthrow ?_ ?_
    · unfold f_X2_coming
      by_cases h1 : y < 1
      · rw [if_pos h1]
        rfl
      · rw [if_neg h1, if_neg (by rw [i32_lt, i32_1] at h1; rw [i32_le, show (400 : Int32).toInt = 400 by decide]; omega)]
        rfl
    · unfold f_X3_coming
      rw [m_in (a := 0) (b := 0) (a' := 1) (b' := 400) (by decide) (by decide), if_neg hy, bi_k, if_pos rfl]
      exact hmthrow
end RR
