section RQ
variable {z : Sh9} {M M' M1 M2 M6 N N' : Mem9} {g x y x0 n c b sg B B' l a A gg : Nat} {Q Q' p r : Nat → Int32} {g0 g1 g2 : Int32}
theorem hz_n1 : a + 383 + 7 ≠ a + 386 := by omega
theorem hz_n2 : a + 383 ≠ a + 386 := by omega
/-- a tick of the model's trial -/
theorem mt_tick (hz : HZ8 z a) (hR : RI8 (N (a + 386))) : ∃ N', f_X3_tickOn z (a + 383) (a + 386) N = some (.inl none, N') ∧ N8 (a + 383) (a + 386) N N' ∧ N' (a + 386) = tq8 (N (a + 386)) := by
  obtain ⟨N', t, n1, e1, -⟩ := m_tickOn (hz_x0 hz) (hz_mov hz) (hz_try hz) hz_n1 hz_n2 hR
  exact ⟨N', t, n1, e1⟩
theorem mt_of {j : Nat} (hz : HZ8 z a) (hl : l < 3) (hj : j < 37) : f_X3_of z (a + 386) (nI l) (nI j) N = some (.inl (some (.int (pu_s (N (a + 386)) l j))), N) := m_of (hz_try hz) hl hj
theorem mt_of0 (hz : HZ8 z a) (hR : RI8 (N (a + 386))) (hl : l < kn8 (N (a + 386))) : f_X3_of z (a + 386) (nI l) 0 N = some (.inl (some (.int (nI (kc8 (N (a + 386)) l)))), N) := by
  have e := mt_of (N := N) (l := l) (j := 0) hz (by have := hR.2.1; omega) (by decide)
  rw [(hR.2.2.2 l hl).1] at e
  exact e
theorem ml_empty (hz : HZ8 z a) : ∀ rem t m N, t + rem = 401 → rem < m → RI8 (N (a + 386)) → l < kn8 (N (a + 386)) → ∃ N', fx9 (fun _ _ _ _ => none) (f_X3_emptyIn_b40 z) m (a + 383) (nI l) (nI t) N = some (.inl (some (.int (le8 (N (a + 386) 7) (N (a + 386) 8) (N (a + 386) 9) rem t (kc8 (N (a + 386)) l) (pu_s (N (a + 386)) l)))), N') ∧ N8 (a + 383) (a + 386) N N' := by
  intro rem
  induction rem with
  | zero =>
    intro t m N ht hm hR hl
    obtain ⟨m, rfl⟩ : ∃ q, m = q + 1 := ⟨m - 1, by omega⟩
    refine ⟨N, ?_, n8_refl⟩
    rw [fx_k]
    unfold f_X3_emptyIn_b40
    rw [if_pos ((i_400 (by omega)).mpr (by omega))]
    rfl
  | succ rem ih =>
    intro t m N ht hm hR hl
    obtain ⟨m, rfl⟩ : ∃ q, m = q + 1 := ⟨m - 1, by omega⟩
    have h6 := (hR.2.2.2 l hl).2.1
    by_cases h0 : kc8 (N (a + 386)) l = 0
    · refine ⟨N, ?_, n8_refl⟩
      rw [fx_k]
      unfold f_X3_emptyIn_b40 le8
      rw [if_neg (fun e => by have := (i_400 (by omega)).mp e; omega), hz_r3 hz, sb_k, mt_of0 hz hR hl, bi_k, if_pos (show nI _ = 0 by rw [h0]; rfl), if_pos h0]
      rfl
    · obtain ⟨N1, t1, n1, e1⟩ := mt_tick hz hR
      obtain ⟨hA, hc⟩ := tq_lane hR hl
      obtain ⟨N2, t2, n2⟩ := ih (t + 1) m N1 (by omega) (by omega) (by rw [e1]; exact ri_tq hR) (by rw [e1, tq_kn]; exact hl)
      rw [e1, tq_h (by omega), tq_h (by omega), tq_h (by omega), hc, le_cong _ _ _ _ _ hA] at t2
      refine ⟨N2, ?_, n8_trans n1 n2⟩
      rw [fx_k]
      unfold f_X3_emptyIn_b40 le8
      rw [if_neg (fun e => by have := (i_400 (by omega)).mp e; omega), hz_r3 hz, sb_k, mt_of0 hz hR hl, bi_k, if_neg (nI_ne0 (by omega) (by omega)), if_neg h0, sb_k, iv_k (hz_x0 hz), t1, bv_k, nI_1]
      exact t2
theorem nI_sub {i j : Nat} (h : j ≤ i) : nI i - nI j = nI (i - j) := by
  obtain ⟨d, rfl⟩ : ∃ d, i = j + d := ⟨i - j, by omega⟩
  rw [Nat.add_sub_cancel_left, Nat.add_comm, ← nI_add, Int32.add_sub_cancel]
theorem ml_through (hz : HZ8 z a) : ∀ rem t j m N, t + rem = 401 → rem < m → RI8 (N (a + 386)) → l < kn8 (N (a + 386)) → j < kc8 (N (a + 386)) l → ∃ N', fx9 (fun _ _ _ _ _ _ => none) (f_X3_through_b6 z) m (a + 383) (a + 386) (nI l) (nI j) (nI t) N = some (.inl (some (.int (lt8 (N (a + 386) 7) (N (a + 386) 8) (N (a + 386) 9) rem t j (kc8 (N (a + 386)) l) (pu_s (N (a + 386)) l)))), N') ∧ N8 (a + 383) (a + 386) N N' := by
  intro rem
  induction rem with
  | zero =>
    intro t j m N ht hm hR hl hj
    obtain ⟨m, rfl⟩ : ∃ q, m = q + 1 := ⟨m - 1, by omega⟩
    refine ⟨N, ?_, n8_refl⟩
    rw [fx_k]
    unfold f_X3_through_b6
    rw [if_pos ((i_400 (by omega)).mpr (by omega))]
    rfl
  | succ rem ih =>
    intro t j m N ht hm hR hl hj
    obtain ⟨m, rfl⟩ : ∃ q, m = q + 1 := ⟨m - 1, by omega⟩
    have hI := hR.2.2.2 l hl
    have h6 := hI.2.1
    have hn := hR.2.1
    have elast := m_last (M := N) (x := a + 386) (l := l) (k := j) (hz_try hz) (by omega) (by omega)
    by_cases h0 : la9' (pu_s (N (a + 386)) l) j ≤ 20
    · obtain ⟨v1, v2⟩ := th_inv hI hj h0
      obtain ⟨N1, t1, n1, e1⟩ := mt_tick hz hR
      obtain ⟨hA, hc⟩ := tq_lane hR hl
      have hR1 : RI8 (N1 (a + 386)) := by rw [e1]; exact ri_tq hR
      have hl1 : l < kn8 (N1 (a + 386)) := by rw [e1, tq_kn]; exact hl
      have hc1 : kc8 (N1 (a + 386)) l = cc9 (kc8 (N (a + 386)) l) (pu_s (N (a + 386)) l) := by rw [e1]; exact hc
      obtain ⟨N2, t2, n2⟩ := ih (t + 1) (if ps9 (kc8 (N (a + 386)) l) (mv9 (pu_s (N (a + 386)) l) (kc8 (N (a + 386)) l)) then j - 1 else j) m N1 (by omega) (by omega) hR1 hl1 (by rw [hc1]; exact v1)
      obtain ⟨gg, hg20, hg9⟩ := hR.2.2.1
      have hI2 := pI_tick (g0 := N (a + 386) 7) (g1 := N (a + 386) 8) hg20 hI
      rw [← hg9] at hI2
      have hcong := lt_cong (g0 := N (a + 386) 7) (g1 := N (a + 386) 8) (g2 := N (a + 386) 9) ⟨gg, hg20, hg9⟩ rem (t + 1) _ _ _ _ hA (pI_A hA hI2) v1
      rw [e1, tq_h (by omega), tq_h (by omega), tq_h (by omega), hc, hcong] at t2
      refine ⟨N2, ?_, n8_trans n1 n2⟩
      have ej : nI j - (nI (kc8 (N (a + 386)) l) - nI (kc8 (N1 (a + 386)) l)) = nI (if ps9 (kc8 (N (a + 386)) l) (mv9 (pu_s (N (a + 386)) l) (kc8 (N (a + 386)) l)) then j - 1 else j) := by
        rw [hc1]
        unfold cc9
        by_cases q : ps9 (kc8 (N (a + 386)) l) (mv9 (pu_s (N (a + 386)) l) (kc8 (N (a + 386)) l))
        · have := v2 q
          rw [if_pos q, if_pos q, nI_sub (by omega), nI_sub (by omega)]
          exact congrArg nI (by omega)
        · rw [if_neg q, if_neg q, Int32.sub_self, Int32.sub_zero]
      rw [fx_k]
      unfold f_X3_through_b6 lt8
      rw [if_neg (fun e => by have := (i_400 (by omega)).mp e; omega), elast, bi_k, if_pos h0, if_pos h0, mt_of0 hz hR hl, bi_k, iv_k (hz_x0 hz), t1, bv_k, mt_of0 hz hR1 hl1, bi_k, nm_k, ej, nI_1]
      exact t2
    · refine ⟨N, ?_, n8_refl⟩
      rw [fx_k]
      unfold f_X3_through_b6 lt8
      rw [if_neg (fun e => by have := (i_400 (by omega)).mp e; omega), elast, bi_k, if_neg h0, if_neg h0]
      rfl
theorem ml_hits (hz : HZ8 z a) : ∀ rem t m N, t + rem = 401 → rem < m → RI8 (N (a + 386)) → l < kn8 (N (a + 386)) → pu_s (N (a + 386)) l 5 = 0 → pu_s (N (a + 385)) l 5 = 0 → ∃ N', fx9 (fun _ _ _ _ => none) (f_X3_hitsIn_b50 z) m (a + 383) (nI l) (nI t) N = some (.inl (some (.int (lh8 (N (a + 386) 7) (N (a + 386) 8) (N (a + 386) 9) rem t (kc8 (N (a + 386)) l) (pu_s (N (a + 386)) l)))), N') ∧ N8 (a + 383) (a + 386) N N' := by
  intro rem
  induction rem with
  | zero =>
    intro t m N ht hm hR hl h5 h5n
    obtain ⟨m, rfl⟩ : ∃ q, m = q + 1 := ⟨m - 1, by omega⟩
    refine ⟨N, ?_, n8_refl⟩
    rw [fx_k]
    unfold f_X3_hitsIn_b50
    rw [if_pos ((i_400 (by omega)).mpr (by omega))]
    rfl
  | succ rem ih =>
    intro t m N ht hm hR hl h5 h5n
    obtain ⟨m, rfl⟩ : ∃ q, m = q + 1 := ⟨m - 1, by omega⟩
    have hn := hR.2.1
    have e5 : f_X3_of z (a + 385) (nI l) 5 N = some (.inl (some (.int 0)), N) := by
      have e := m_of (M := N) (x := a + 385) (l := l) (j := 5) (hz_now hz) (by omega) (by decide)
      rw [h5n] at e
      exact e
    obtain ⟨N1, t1, n1, e1⟩ := mt_tick hz hR
    obtain ⟨hA, hc⟩ := tq_lane hR hl
    have e15 : f_X3_of z (a + 386) (nI l) 5 N1 = some (.inl (some (.int (pu_s (tq8 (N (a + 386))) l 5))), N1) := by
      have e := mt_of (N := N1) (l := l) (j := 5) hz (by omega) (by decide)
      rw [e1] at e
      exact e
    have e55 : pu_s (tq8 (N (a + 386))) l 5 = if hp9 (cc9 (kc8 (N (a + 386)) l) (pu_s (N (a + 386)) l)) (t3 (cc9 (kc8 (N (a + 386)) l) (pu_s (N (a + 386)) l)) (ct9 (cc9 (kc8 (N (a + 386)) l) (pu_s (N (a + 386)) l)) (N (a + 386) 7) (N (a + 386) 8) (N (a + 386) 9) (mo9 (kc8 (N (a + 386)) l) (pu_s (N (a + 386)) l)))) then 1 else 0 := by
      rw [hA 5 (by omega), tk_5h, h5]
    by_cases q : hp9 (cc9 (kc8 (N (a + 386)) l) (pu_s (N (a + 386)) l)) (t3 (cc9 (kc8 (N (a + 386)) l) (pu_s (N (a + 386)) l)) (ct9 (cc9 (kc8 (N (a + 386)) l) (pu_s (N (a + 386)) l)) (N (a + 386) 7) (N (a + 386) 8) (N (a + 386) 9) (mo9 (kc8 (N (a + 386)) l) (pu_s (N (a + 386)) l))))
    · rw [if_pos q] at e55
      refine ⟨N1, ?_, n1⟩
      rw [fx_k]
      unfold f_X3_hitsIn_b50 lh8
      rw [if_neg (fun e => by have := (i_400 (by omega)).mp e; omega), hz_r2 hz, sb_k, e5, bi_k, if_pos rfl, hz_r3 hz, sb_k, iv_k (hz_x0 hz), t1, bv_k, sb_k, e15, e55, bi_k, if_pos rfl, if_pos q]
      rfl
    · rw [if_neg q] at e55
      obtain ⟨N2, t2, n2⟩ := ih (t + 1) m N1 (by omega) (by omega) (by rw [e1]; exact ri_tq hR) (by rw [e1, tq_kn]; exact hl) (by rw [e1]; exact e55) (by rw [show N1 (a + 385) = N (a + 385) from funext fun k => n1 _ _ (by omega) (by omega) (fun _ => by omega)]; exact h5n)
      rw [e1, tq_h (by omega), tq_h (by omega), tq_h (by omega), hc, lh_cong _ _ _ _ _ hA] at t2
      refine ⟨N2, ?_, n8_trans n1 n2⟩
      rw [fx_k]
      unfold f_X3_hitsIn_b50 lh8
      rw [if_neg (fun e => by have := (i_400 (by omega)).mp e; omega), hz_r2 hz, sb_k, e5, bi_k, if_pos rfl, hz_r3 hz, sb_k, iv_k (hz_x0 hz), t1, bv_k, sb_k, e15, e55, bi_k, if_neg (by decide), if_neg q, nI_1]
      exact t2
/-! the trial is what is -/
def qt8 (M : Mem9) (a : Nat) : Nat → Int32 := cp8 0 (M (a + 385)) (M (a + 386))
theorem qt_i {i : Nat} (hi : i < 121) : qt8 M a i = M (a + 385) i := cp_0 hi
theorem qt_R (hR : RI8 (M (a + 385))) : RI8 (qt8 M a) ∧ kn8 (qt8 M a) = kn8 (M (a + 385)) ∧ ∀ l, l < 3 → kc8 (qt8 M a) l = kc8 (M (a + 385)) l := ri_row hR (fun _ hi _ => qt_i hi)
theorem m_try (hz : HZ8 z a) (h5 : N (a + 385) = M (a + 385)) (h6 : N (a + 386) = M (a + 386)) : f_X3_copyState z (a + 385) 0 (a + 386) 0 N = some (.inl none, pu_R N (a + 386) (qt8 M a)) := by
  have hc := m_copy (M := N) (x := a + 385) (y := a + 386) (fo := 0) (to := 0) (hz_now hz) (hz_try hz) (by omega) (by omega) (by omega) (by decide) (by decide)
  have e0 : (fun i => N (a + 385) (0 + i)) = M (a + 385) := by
    funext i
    rw [Nat.zero_add, h5]
  rw [e0, h6] at hc
  exact hc
theorem x0_try (hz : HZ8 z a) (h : GR8 M (a + 2) (M (a + 385)) B) : ∃ M1, f_X0_copyFrom z (a + 23) (a + 2) M = some (.inl none, M1) ∧ F8 M M1 (a + 23) 21 ∧ GR8 M1 (a + 23) (qt8 M a) B := by
  obtain ⟨M1, t1, f1, g1⟩ := x0_copy (hz_C hz) (hz_P hz) (by omega) h
  exact ⟨M1, t1, f1, g8_row g1 (fun i hi => qt_i hi)⟩
theorem z8_F (f : F8 M M' (a + 23) 21) : Z8 a M M' := fun q k h _ _ _ _ => f q k (by omega)
theorem z8_N (f : N8 (a + 383) (a + 386) M M') : Z8 a M M' := fun q k _ h1 h2 _ h3 => f q k h1 (by omega) (fun e => (h3 e).2.1)
theorem ag_look {fl fm : Mem9 → Re9} {v : Int32} (h : SR8 M a B) (h1 : fl M = some (.inl (some (.int 0)), wr9 M1 (a + 391) 0 v)) (f1 : F8 M M1 (a + 23) 21) (h2 : ∃ N', fm (wr9 M1 (a + 391) 0 v) = some (.inl (some (.int v)), N') ∧ N8 (a + 383) (a + 386) (wr9 (wr9 M1 (a + 391) 0 v) (a + 383) 0 0) N') : AG8 a M B fl fm := by
  obtain ⟨N', t, n⟩ := h2
  refine ag_ret h1 ⟨N', t, ?_, ?_, sr_Z h (z8_trans (z8_trans (z8_trans (z8_F f1) z8_w1) (z8_w0 (by omega))) (z8_N n))⟩
  · rw [n _ _ (by omega) (by omega) (fun _ => by omega), wr_eq]
  · rw [n _ _ (by omega) (by omega) (fun _ => by omega), wr_na (by omega), wr_eq]
theorem e_l5 {v : Int32} (f1 : F8 M M1 (a + 23) 21) : wr9 M1 (a + 391) 0 v (a + 385) = M (a + 385) := by
  rw [wr9_ne (by omega)]
  funext k
  exact f1 _ _ (by omega)
theorem e_l6 {v : Int32} (f1 : F8 M M1 (a + 23) 21) : wr9 M1 (a + 391) 0 v (a + 386) = M (a + 386) := by
  rw [wr9_ne (by omega)]
  funext k
  exact f1 _ _ (by omega)
/-- the model's trial stands -/
theorem m_trial {v : Int32} (hz : HZ8 z a) (f1 : F8 M M1 (a + 23) 21) : f_X3_copyState z (a + 385) 0 (a + 386) 0 (wr9 (wr9 M1 (a + 391) 0 v) (a + 383) 0 0) = some (.inl none, pu_R (wr9 (wr9 M1 (a + 391) 0 v) (a + 383) 0 0) (a + 386) (qt8 M a)) := m_try hz ((w0_r (by omega)).trans (e_l5 f1)) ((w0_r (by omega)).trans (e_l6 f1))
theorem q_emptyIn {y : Int32} (hz : HZ8 z a) (h : SR8 M a B) : AG8 a M B (fun M => f_L_emptyIn z a y (a + 391) M) (fun M => f_X3_emptyIn z (a + 383) y M) := by
  have hP := h.2.1
  have hR := hP.2.1
  by_cases hy : 0 ≤ y.toInt ∧ y.toInt < (kn8 (M (a + 385)) : Int)
  · obtain ⟨l, hl, rfl⟩ := y_nat hy
    have hl3 := (g8_at hP hl).2.2.2.1
    obtain ⟨hRt, hnt, hct⟩ := qt_R hR
    obtain ⟨M1, t1, f1, g1⟩ := x0_try hz hP
    obtain ⟨hlc, hgg⟩ := g8_lc g1 (show l < kn8 (qt8 M a) by rw [hnt]; exact hl)
    obtain ⟨M2, t2, f2⟩ := xl_empty hz hl3 hgg 401 0 FU9 M1 _ (by omega) (by unfold FU9; omega) hlc
    have hA := (g8_at g1 (show l < kn8 (qt8 M a) by rw [hnt]; exact hl)).2.1
    rw [← le_cong _ _ _ _ _ hA] at t2
    have f12 := f8_trans f1 f2
    refine ag_look (v := le8 (qt8 M a 7) (qt8 M a 8) (qt8 M a 9) 401 0 (kc8 (qt8 M a) l) (pu_s (qt8 M a) l)) (M1 := M2) h ?_ f12 ?_
    · have hx : f_X2_emptyIn z a (nI l) M = some (.inl (some (.int (le8 (qt8 M a 7) (qt8 M a 8) (qt8 M a 9) 401 0 (kc8 (qt8 M a) l) (pu_s (qt8 M a) l)))), M2) := by
        unfold f_X2_emptyIn
        rw [iv_k hz.1.1, x2_checkLane hz hP hy, bv_k, hz_rC hz, sb_k, hz_rP hz, sb_k, iv_k (hz_C hz).1, t1, bv_k, sb_k, hz_rg (hz_C hz), sb_k, g8_la (hz_C hz) hl3, sb_k]
        exact t2
      show f_L_emptyIn z a (nI l) (a + 391) M = _
      unfold f_L_emptyIn
      rw [iv_k hz.1.1, hx, bh_k]
      exact sl_out hz
    · have e5 := e_l5 (v := le8 (qt8 M a 7) (qt8 M a 8) (qt8 M a 9) 401 0 (kc8 (qt8 M a) l) (pu_s (qt8 M a) l)) f12
      have et := m_trial (v := le8 (qt8 M a 7) (qt8 M a 8) (qt8 M a 9) 401 0 (kc8 (qt8 M a) l) (pu_s (qt8 M a) l)) hz f12
      generalize hN0 : wr9 (wr9 M2 (a + 391) 0 (le8 (qt8 M a 7) (qt8 M a 8) (qt8 M a 9) 401 0 (kc8 (qt8 M a) l) (pu_s (qt8 M a) l))) (a + 383) 0 0 = N0 at et
      obtain ⟨N', t3, n3⟩ := ml_empty (l := l) hz 401 0 FU9 (pu_R N0 (a + 386) (qt8 M a)) (by omega) (by unfold FU9; omega) (by rw [row_R]; exact hRt) (by rw [row_R, hnt]; exact hl)
      rw [row_R] at t3
      refine ⟨N', ?_, n8_trans n8_R n3⟩
      show f_X3_emptyIn z (a + 383) (nI l) _ = _
      unfold f_X3_emptyIn
      rw [hz_r2 hz, sb_k, m_lane1 (hz_now hz) (by rw [e5]; exact hR) (by rw [e5]; exact hl), bi_k, if_neg (by decide)]
      unfold f_X3_emptyIn_b17
      rw [iv_k (hz_x0 hz), m_ref0 (hz_x0 hz), bi_k, if_pos rfl, hN0, hz_r2 hz, sb_k, hz_r3 hz, sb_k, et, bv_k]
      exact t3
  · refine ag_throw (e := 1) (b := 0) h (by decide) ?_ ?_
    · have hx : f_X2_emptyIn z a y M = some (.inr "java/lang/IndexOutOfBoundsException", M) := by
        unfold f_X2_emptyIn
        rw [iv_k hz.1.1, x2_noLane hz hP hy, bv_r]
      show f_L_emptyIn z a y (a + 391) M = _
      unfold f_L_emptyIn
      rw [iv_k hz.1.1, hx, bh_r, if_pos rfl]
      rfl
    · show f_X3_emptyIn z (a + 383) y M = _
      unfold f_X3_emptyIn
      rw [hz_r2 hz, sb_k, m_lane0 (hz_now hz) hR hy, bi_k, if_pos rfl]
      unfold f_X3_emptyIn_b17
      rw [iv_k (hz_x0 hz), m_ref1 (hz_x0 hz) (by decide), bi_k, if_neg (by decide)]
      rfl
/-- the class's run on its copy, until a vehicle is through -/
theorem x2_cti {j : Nat} (hz : HZ8 z a) (g1 : GR8 M (a + 23) Q B) (hl : l < kn8 Q) (hj : j < kc8 Q l) : ∃ M', f_X2_copyThroughIn z a (nI l) (nI j) M = some (.inl (some (.int (lt8 (Q 7) (Q 8) (Q 9) 401 0 j (kc8 Q l) (pu_s Q l)))), M') ∧ F8 M M' (a + 23) 21 := by
  obtain ⟨hI, hA, -, hl3, -, -, -⟩ := g8_at g1 hl
  obtain ⟨hlc, hgg⟩ := g8_lc g1 hl
  obtain ⟨M2, t2, f2⟩ := xl_through hz hl3 hgg (w := M (a + 23 + 3 + 6 * l) 12 + nI j) 401 0 j FU9 M _ (by omega) (by unfold FU9; omega) hlc hj (by rw [Int32.add_comm, Int32.add_sub_cancel])
  rw [← lt_cong hgg _ _ _ _ _ _ hA hI hj] at t2
  refine ⟨M2, ?_, f2⟩
  unfold f_X2_copyThroughIn
  rw [hz_rC hz, sb_k, hz_rg (hz_C hz), sb_k, g8_la (hz_C hz) hl3, sb_k, gf_k ((hz_C hz).2.2.2 l hl3).1, sb_k, nm_k]
  exact t2
theorem q_throughIn {y w : Int32} (hz : HZ8 z a) (h : SR8 M a B) : AG8 a M B (fun M => f_L_throughIn z a y w (a + 391) M) (fun M => f_X3_throughIn z (a + 383) y w M) := by
  have hP := h.2.1
  have hR := hP.2.1
  have hthrow : f_X2_checkVehicle z a y w M = some (.inr "java/lang/IndexOutOfBoundsException", M) → f_X3_isVehicle z (a + 385) y w M = some (.inl (some (.int 0)), M) → AG8 a M B (fun M => f_L_throughIn z a y w (a + 391) M) (fun M => f_X3_throughIn z (a + 383) y w M) := by
    intro hx hm
    refine ag_throw (e := 1) (b := 0) h (by decide) ?_ ?_
    · show f_L_throughIn z a y w (a + 391) M = _
      unfold f_L_throughIn f_X2_throughIn
      rw [iv_k hz.1.1, iv_k hz.1.1, hx, bv_r, bh_r, if_pos rfl]
      rfl
    · show f_X3_throughIn z (a + 383) y w M = _
      unfold f_X3_throughIn
      rw [hz_r2 hz, sb_k, hm, bi_k, if_pos rfl]
      unfold f_X3_throughIn_b18
      rw [iv_k (hz_x0 hz), m_ref1 (hz_x0 hz) (by decide), bi_k, if_neg (by decide)]
      rfl
  by_cases hy : 0 ≤ y.toInt ∧ y.toInt < (kn8 (M (a + 385)) : Int)
  · obtain ⟨l, hl, rfl⟩ := y_nat hy
    have hl3 := (g8_at hP hl).2.2.2.1
    have h6 := (g8_at hP hl).1.2.1
    by_cases hw : 0 ≤ w.toInt ∧ w.toInt < (kc8 (M (a + 385)) l : Int)
    · obtain ⟨j, hj, rfl⟩ := y_nat hw
      obtain ⟨hRt, hnt, hct⟩ := qt_R hR
      obtain ⟨M1, t1, f1, g1⟩ := x0_try hz hP
      obtain ⟨M2, t2, f2⟩ := x2_cti (j := j) hz g1 (by rw [hnt]; exact hl) (by rw [hct l hl3]; exact hj)
      have f12 := f8_trans f1 f2
      refine ag_look (v := lt8 (qt8 M a 7) (qt8 M a 8) (qt8 M a 9) 401 0 j (kc8 (qt8 M a) l) (pu_s (qt8 M a) l)) (M1 := M2) h ?_ f12 ?_
      · have hx : f_X2_throughIn z a (nI l) (nI j) M = some (.inl (some (.int (lt8 (qt8 M a 7) (qt8 M a 8) (qt8 M a 9) 401 0 j (kc8 (qt8 M a) l) (pu_s (qt8 M a) l)))), M2) := by
          unfold f_X2_throughIn
          rw [iv_k hz.1.1, x2_checkVeh hz hP hl rfl hw, bv_k, hz_rC hz, sb_k, hz_rP hz, sb_k, iv_k (hz_C hz).1, t1, bv_k, iv_k hz.1.1, t2, bi_k]
          rfl
        show f_L_throughIn z a (nI l) (nI j) (a + 391) M = _
        unfold f_L_throughIn
        rw [iv_k hz.1.1, hx, bh_k]
        exact sl_out hz
      · have e5 := e_l5 (v := lt8 (qt8 M a 7) (qt8 M a 8) (qt8 M a 9) 401 0 j (kc8 (qt8 M a) l) (pu_s (qt8 M a) l)) f12
        have et := m_trial (v := lt8 (qt8 M a 7) (qt8 M a 8) (qt8 M a 9) 401 0 j (kc8 (qt8 M a) l) (pu_s (qt8 M a) l)) hz f12
        generalize hN0 : wr9 (wr9 M2 (a + 391) 0 (lt8 (qt8 M a 7) (qt8 M a 8) (qt8 M a 9) 401 0 j (kc8 (qt8 M a) l) (pu_s (qt8 M a) l))) (a + 383) 0 0 = N0 at et
        obtain ⟨N', t3, n3⟩ := ml_through (l := l) hz 401 0 j FU9 (pu_R N0 (a + 386) (qt8 M a)) (by omega) (by unfold FU9; omega) (by rw [row_R]; exact hRt) (by rw [row_R, hnt]; exact hl) (by rw [row_R, hct l hl3]; exact hj)
        rw [row_R] at t3
        refine ⟨N', ?_, n8_trans n8_R n3⟩
        show f_X3_throughIn z (a + 383) (nI l) (nI j) _ = _
        unfold f_X3_throughIn
        rw [hz_r2 hz, sb_k, m_isVehicle (hz_now hz) (by rw [e5]; exact hR) (by rw [e5]; exact hl) rfl, bi_k, e5, if_pos hw, if_neg (by decide)]
        unfold f_X3_throughIn_b18
        rw [iv_k (hz_x0 hz), m_ref0 (hz_x0 hz), bi_k, if_pos rfl, hN0, hz_r2 hz, sb_k, hz_r3 hz, sb_k, et, bv_k, sb_k, iv_k (hz_x0 hz)]
        have t4 : f_X3_through z (a + 383) (a + 386) (nI l) (nI j) (pu_R N0 (a + 386) (qt8 M a)) = _ := t3
        rw [t4, bi_k]
        rfl
    · refine hthrow (x2_noVeh hz hP (fun e => ?_)) ?_
      · exact hw (e.2 l rfl hl3)
      · rw [m_isVehicle (hz_now hz) hR hl rfl, if_neg hw]
  · exact hthrow (x2_noVeh hz hP (fun e => hy e.1)) (m_noVehicle (hz_now hz) hR hy)
end RQ
