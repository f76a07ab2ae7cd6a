section RM
variable {z : Sh9} {M M' M1 M2 N : Mem9} {g x y x0 n c B B' l a A : Nat} {Q Q' : Nat → Int32}
/-! the text -/
theorem sr_tx (h : SR8 M a B) (hT : TX8 M' a) (f : ∀ q k, q ≠ a + 1 → q ≠ a + 384 → q ≠ a + 391 → (q = a → k ≠ 1) → (q = a + 383 → k ≠ 0 ∧ k ≠ 2) → M' q k = M q k) : SR8 M' a B := by
  obtain ⟨-, hP, ⟨A, d1, d2, o, d3, d4, d5, d6⟩, hK⟩ := h
  have e1 : ∀ q k, a + 2 ≤ q → q ≠ a + 383 → q ≠ a + 384 → q ≠ a + 391 → M' q k = M q k := fun q k h1 h2 h3 h4 => f q k (by omega) h3 h4 (fun _ => by omega) (fun e => absurd e h2)
  refine ⟨hT, ?_, ⟨A, d1, ?_, o, d3, ?_, ?_, fun j hj => ?_⟩, fun j hj => ?_⟩
  · rw [show M' (a + 385) = M (a + 385) from funext fun k => e1 _ _ (by omega) (by omega) (by omega) (by omega)]
    exact g8_same hP (fun q k h1 h2 => e1 q k (by omega) (by omega) (by omega) (by omega))
  · rw [f (a + 383) 6 (by omega) (by omega) (by omega) (fun _ => by omega) (fun _ => by omega)]; exact d2
  · rw [f a 5 (by omega) (by omega) (by omega) (fun _ => by omega) (fun _ => by omega)]; exact d4
  · rw [f a 6 (by omega) (by omega) (by omega) (fun _ => by omega) (fun _ => by omega)]; exact d5
  · rw [show dy8 M' a j = dy8 M a j from funext fun i => e1 _ _ (by omega) (by omega) (by omega) (by omega)]
    exact g8_same (d6 j hj) (fun q k h1 h2 => e1 q k (by omega) (by omega) (by omega) (by omega))
  · obtain ⟨k1, k2, k3⟩ := hK j hj
    rw [e1 (a + 46) _ (by omega) (by omega) (by omega) (by omega), e1 (a + 389) _ (by omega) (by omega) (by omega) (by omega), show kp8 M' a j = kp8 M a j from funext fun i => e1 _ _ (by omega) (by omega) (by omega) (by omega)]
    exact ⟨k1, k2, fun h => g8_same (k3 h) (fun q k h1 h2 => e1 q k (by omega) (by omega) (by omega) (by omega))⟩
theorem ch_ok : ∀ w, w < 256 → UInt32.toInt32 (Int32.toUInt32 (nI w) % 65536) = nI w ∧ vp_nar .char (nI w) = nI w := by decide +kernel
theorem sc_k {k : Nat} {v : Int32} (h : RW9 z x 12 n) (hk : k < n) (hn : n < 2147483648) (hv : vp_nar .char v = v) : sc9 z M x (nI k) v = some (wr9 M x k v) := by
  have ok : okA9 z x 12 (nI k) := by
    refine ⟨h.1, h.2.1, by rw [h.2.2], ?_, ?_⟩
    · rw [nI_toInt (by omega)]; omega
    · rw [nI_toInt (by omega), h.2.2]; show (k : Int) < (n : Int); omega
  unfold sc9
  rw [if_pos ⟨ok, hv⟩, nI_clamp (by omega)]
theorem q_append {y : Int32} (hz : HZ8 z a) (h : SR8 M a B) : AG8 a M B (fun M => f_L_append z a y (a + 391) M) (fun M => f_X3_append z (a + 383) y M) := by
  obtain ⟨T, t1, t2, t3, t4⟩ := h.1
  by_cases hy : 0 ≤ y.toInt ∧ y.toInt ≤ 255
  · obtain ⟨w, hw, rfl⟩ := y_of (n := 255) hy (by decide)
    obtain ⟨c1, c2⟩ := ch_ok w (by omega)
    by_cases hT : T < 120
    · have hx : f_X2_append z a (nI w) M = some (.inl (some (.int (nI (T + 1)))), wr9 (wr9 M (a + 1) T (nI w)) a 1 (nI (T + 1))) := by
        unfold f_X2_append
        rw [if_neg (nI_pos (by omega)), if_pos (show nI w ≤ 255 from nI_le (b := 255) hw (by decide)), gf_k hz.1.1, sb_k, t2, if_pos (show nI T < 120 from nI_lt (b := 120) hT (by decide)), rf_k hz.1.1, sb_k, sb_k, c1, sc_k hz.1.2.1 hT (by decide) c2, sb_k, gf_k hz.1.1, sb_k, wr_na (by omega), t2, pf_k hz.1.1, sb_k, nI_1, gf_k hz.1.1, sb_k, wr_eq]
        rfl
      refine ag_ret (v := nI (T + 1)) (M1 := wr9 (wr9 M (a + 1) T (nI w)) a 1 (nI (T + 1))) ?_ ?_
      · show f_L_append z a (nI w) (a + 391) M = _
        unfold f_L_append
        rw [iv_k hz.1.1, hx, bh_k]
        exact sl_out hz
      · show ∃ M2, f_X3_append z (a + 383) (nI w) _ = _ ∧ _
        have hr : ∀ N : Mem9, N (a + 383) 2 = nI T → f_X3_append z (a + 383) (nI w) N = some (.inl (some (.int (nI (T + 1)))), wr9 (wr9 (wr9 N (a + 383) 0 0) (a + 384) T (nI w)) (a + 383) 2 (nI (T + 1))) := by
          intro N hN
          unfold f_X3_append
          rw [m_in (a := 0) (b := 0) (a' := 0) (b' := 255) (by decide) (by decide), if_pos hy, bi_k, if_neg (by decide), gf_k (hz_x0 hz), sb_k, hN, if_neg (show ¬ nI T = 120 from fun e => by have := (nI_eq (b := 120) (by omega) (by omega)).mp e; omega)]
          unfold f_X3_append_b31
          rw [iv_k (hz_x0 hz), m_ref0 (hz_x0 hz), bi_k, if_pos rfl, hz_r1 hz, sb_k, gf_k (hz_x0 hz), sb_k, wr_nk (by decide), hN, st_k hz.2.1.2.1 hT (by decide), sb_k, gf_k (hz_x0 hz), sb_k, wr_na (by omega), wr_nk (by decide), hN, pf_k (hz_x0 hz), sb_k, nI_1, gf_k (hz_x0 hz), sb_k, wr_eq]
          rfl
        refine ⟨_, hr _ (by rw [wr_na (by omega), wr_na (by omega), wr_na (by omega)]; exact t3), ?_, ?_, sr_tx h ⟨T + 1, by omega, ?_, ?_, fun i hi => ?_⟩ (fun q k h1 h2 h3 h4 h5 => ?_)⟩
        · rw [wr_nk (by decide), wr_na (by omega), wr_eq]
        · rw [wr_na (by omega), wr_na (by omega), wr_na (by omega), wr_eq]
        · rw [wr_na (by omega), wr_na (by omega), wr_na (by omega), wr_na (by omega), wr_eq]
        · rw [wr_eq]
        · rw [wr_na (by omega), wr_na (by omega), wr_na (by omega), wr_na (by omega), wr_na (by omega), wr_na (show a + 384 ≠ a + 383 by omega)]
          by_cases e : i = T
          · rw [e, wr_eq, wr_eq, nI_toInt (by omega)]
            exact ⟨rfl, by omega, by omega⟩
          · rw [wr_nk e, wr_nk e, wr_na (by omega), wr_na (by omega), wr_na (by omega), wr_na (by omega)]
            exact t4 i (by omega)
        · have g1 : wr9 (wr9 (wr9 (wr9 (wr9 (wr9 M (a + 1) T (nI w)) a 1 (nI (T + 1))) (a + 391) 0 (nI (T + 1))) (a + 383) 0 0) (a + 384) T (nI w)) (a + 383) 2 (nI (T + 1)) q k = wr9 (wr9 (wr9 (wr9 (wr9 M (a + 1) T (nI w)) a 1 (nI (T + 1))) (a + 391) 0 (nI (T + 1))) (a + 383) 0 0) (a + 384) T (nI w) q k := by
            by_cases e : q = a + 383
            · rw [e, wr_nk (h5 e).2]
            · exact wr_na e
          rw [g1, wr_na h2]
          have g2 : wr9 (wr9 (wr9 (wr9 M (a + 1) T (nI w)) a 1 (nI (T + 1))) (a + 391) 0 (nI (T + 1))) (a + 383) 0 0 q k = wr9 (wr9 (wr9 M (a + 1) T (nI w)) a 1 (nI (T + 1))) (a + 391) 0 (nI (T + 1)) q k := by
            by_cases e : q = a + 383
            · rw [e, wr_nk (h5 e).1]
            · exact wr_na e
          rw [g2, wr_na h3]
          have g3 : wr9 (wr9 M (a + 1) T (nI w)) a 1 (nI (T + 1)) q k = wr9 M (a + 1) T (nI w) q k := by
            by_cases e : q = a
            · rw [e, wr_nk (h4 e)]
            · exact wr_na e
          rw [g3, wr_na h1]
    · have hT2 : T = 120 := by omega
      subst hT2
      refine ag_throw (e := 2) (b := 0) h (by decide) ?_ ?_
      · have hx : f_X2_append z a (nI w) M = some (.inr "java/lang/IllegalStateException", M) := by
          unfold f_X2_append
          rw [if_neg (nI_pos (by omega)), if_pos (show nI w ≤ 255 from nI_le (b := 255) hw (by decide)), gf_k hz.1.1, sb_k, t2, if_neg (by decide)]
          rfl
        show f_L_append z a (nI w) (a + 391) M = _
        unfold f_L_append
        rw [iv_k hz.1.1, hx, bh_r, if_neg s_se, if_pos rfl]
        rfl
      · show f_X3_append z (a + 383) (nI w) M = _
        unfold f_X3_append
        rw [m_in (a := 0) (b := 0) (a' := 0) (b' := 255) (by decide) (by decide), if_pos hy, bi_k, if_neg (by decide), gf_k (hz_x0 hz), sb_k, t3, if_pos (by decide)]
        unfold f_X3_append_b31
        rw [iv_k (hz_x0 hz), m_ref1 (hz_x0 hz) (by decide), bi_k, if_neg (by decide)]
        rfl
  · refine ag_throw (e := 1) (b := 0) h (by decide) ?_ ?_
    · have hx : f_X2_append z a y M = some (.inr "java/lang/IllegalArgumentException", M) := by
        unfold f_X2_append
        by_cases h1 : y < 0
        · rw [if_pos h1]
          rfl
        · rw [if_neg h1, if_neg (by rw [i32_lt, i32_0] at h1; rw [i32_le, show (255 : Int32).toInt = 255 by decide]; omega)]
          rfl
      show f_L_append z a y (a + 391) M = _
      unfold f_L_append
      rw [iv_k hz.1.1, hx, bh_r, if_pos rfl]
      rfl
    · show f_X3_append z (a + 383) y M = _
      unfold f_X3_append
      rw [m_in (a := 0) (b := 0) (a' := 0) (b' := 255) (by decide) (by decide), if_neg hy, bi_k, if_pos rfl]
      unfold f_X3_append_b31
      rw [iv_k (hz_x0 hz), m_ref1 (hz_x0 hz) (by decide), bi_k, if_neg (by decide)]
      rfl
/-- clearText: both answer the same -/
theorem q_clearText (hz : HZ8 z a) (h : SR8 M a B) : ∃ v M1 M2, f_X2_clearText z a M = some (.inl (some (.int v)), M1) ∧ f_X3_clearText z (a + 383) M1 = some (.inl (some (.int v)), M2) ∧ SR8 M2 a B := by
  obtain ⟨T, t1, t2, t3, t4⟩ := h.1
  refine ⟨nI T, wr9 M a 1 0, wr9 (wr9 (wr9 M a 1 0) (a + 383) 0 0) (a + 383) 2 0, ?_, ?_, sr_tx h ⟨0, by omega, ?_, ?_, fun i hi => by omega⟩ (fun q k h1 h2 h3 h4 h5 => ?_)⟩
  · unfold f_X2_clearText
    rw [gf_k hz.1.1, sb_k, t2, pf_k hz.1.1, sb_k]
    rfl
  · unfold f_X3_clearText
    rw [pf_k (hz_x0 hz), sb_k, gf_k (hz_x0 hz), sb_k, wr_nk (by decide), wr_na (by omega), t3, pf_k (hz_x0 hz), sb_k]
    rfl
  · rw [wr_na (by omega), wr_na (by omega), wr_eq]; rfl
  · rw [wr_eq]; rfl
  · by_cases e : q = a + 383
    · rw [e, wr_nk (h5 e).2, wr_nk (h5 e).1, wr_na (by omega)]
    · rw [wr_na e, wr_na e]
      by_cases e2 : q = a
      · rw [e2, wr_nk (h4 e2)]
      · rw [wr_na e2]
/-! actions -/
theorem act_model {v : Int32} (hz : HZ8 z a) (h : SR8 M a B) (hA : M (a + 383) 6 = nI A) (hA14 : A ≤ 14) (c1 : RC8 a M M1) (d1 : DC8 M1 a (ra8 A) (rb8 A (dy8 M a) (M (a + 385))) B) (f2 : F8 M1 M2 (a + 2) 21) (g2 : GR8 M2 (a + 2) Q' B') (hB : B ≤ B') : ∃ M5, f_X3_remember z (a + 383) (wr9 (wr9 M2 (a + 391) 0 v) (a + 383) 0 0) = some (.inl none, M5) ∧ M5 (a + 385) = M (a + 385) ∧ ∀ M6, N8 (a + 383) (a + 385) M5 M6 → M6 (a + 385) = Q' → M6 (a + 383) 0 = 0 ∧ M6 (a + 391) 0 = v ∧ SR8 M6 a B' := by
  have e2 : ∀ q k, (q = a + 383 ∨ q = a + 385) → M2 q k = M q k := fun q k e => by
    rw [f2 q k (by omega), c1 q k (by omega) (fun _ => by omega)]
  obtain ⟨M5, t5, h5, h56, h57⟩ := m_remember (M := wr9 (wr9 M2 (a + 391) 0 v) (a + 383) 0 0) (x0 := a + 383) (A := A) (hz_x0 hz) (hz_now hz) hz.2.1.2.2.2.2.1 (by rw [wr_nk (by decide), wr_na (by omega), e2 _ _ (by omega)]; exact hA) hA14
  refine ⟨M5, t5, ?_, fun M6 n6 e6 => ⟨?_, ?_, ?_⟩⟩
  · funext k
    rw [h5 _ _ (by omega) (fun _ => by omega), wr_na (by omega), wr_na (by omega), e2 _ _ (by omega)]
  · rw [n6 _ _ (by omega) (by omega) (fun _ => by omega), h5 _ _ (by omega) (fun _ => by omega), wr_eq]
  · rw [n6 _ _ (by omega) (by omega) (fun _ => by omega), h5 _ _ (by omega) (fun _ => by omega), wr_na (by omega), wr_eq]
  · exact sr_act (M4 := wr9 (wr9 M2 (a + 391) 0 v) (a + 383) 0 0) h hA hA14 c1 d1 f2 g2 hB (fun q k h1 h3 => by
      by_cases e : q = a + 383
      · rw [e, wr_nk (h3 e), wr_na (by omega)]
      · rw [wr_na e, wr_na h1]) h5 h56 h57 n6 e6
/-- remembering, of a state -/
theorem act_class (hz : HZ8 z a) (h : SR8 M a B) : ∃ A M1, M (a + 383) 6 = nI A ∧ A ≤ 14 ∧ f_X2_remember z a M = some (.inl none, M1) ∧ RC8 a M M1 ∧ DC8 M1 a (ra8 A) (rb8 A (dy8 M a) (M (a + 385))) B ∧ GR8 M1 (a + 2) (M (a + 385)) B := by
  obtain ⟨-, hP, ⟨A, d1, d2, d3⟩, -⟩ := h
  obtain ⟨M1, t1, c1, r1⟩ := x2_remember hz hP d1 d3
  exact ⟨A, M1, d2, d1, t1, c1, r1, g8_same hP (fun q k h1 h2 => c1 q k (by omega) (fun _ => by omega))⟩
theorem row_R {q : Nat → Int32} : pu_R M x q x = q := by funext k; exact pr_x
theorem q_lane (hz : HZ8 z a) (h : SR8 M a B) : AG8 a M B (fun M => f_L_lane z a (a + 391) M) (fun M => f_X3_lane z (a + 383) M) := by
  have hP := h.2.1
  have hR := hP.2.1
  have e0 : M (a + 385) 0 = nI (kn8 (M (a + 385))) := hR.1
  have hn3 := hR.2.1
  by_cases hn : kn8 (M (a + 385)) < 3
  · obtain ⟨A, M1, hA, hA14, t1, c1, d1, g1⟩ := act_class hz h
    obtain ⟨M2, t2, f2, g2⟩ := x0_addLane (hz_P hz) g1 hn
    have hk2 := (ri_ql hR hn).2
    have e22 := (g8_2 g2).1
    rw [hk2] at e22
    have hx : f_X2_lane z a M = some (.inl (some (.int (nI (kn8 (M (a + 385)))))), M2) := by
      unfold f_X2_lane
      rw [hz_rP hz, sb_k, gf_k (hz_P hz).1, sb_k, (g8_2 hP).1, if_pos (show nI _ < 3 from nI_lt (b := 3) hn (by decide)), iv_k hz.1.1, t1, bv_k, sb_k, iv_k (hz_P hz).1, t2, bi_k, sb_k, gf_k (hz_P hz).1, sb_k, e22, nI_pred]
      rfl
    refine ag_ret (v := nI (kn8 (M (a + 385)))) (M1 := M2) ?_ ?_
    · show f_L_lane z a (a + 391) M = _
      unfold f_L_lane
      rw [iv_k hz.1.1, hx, bh_k]
      exact sl_out hz
    · obtain ⟨M5, t5, e5, k6⟩ := act_model (v := nI (kn8 (M (a + 385)))) hz h hA hA14 c1 d1 f2 g2 (Nat.le_refl _)
      have t6 := m_laneOn (M := M5) (x := a + 385) (hz_now hz) (by rw [e5]; exact hR) (by rw [e5]; exact hn)
      rw [e5] at t6
      refine ⟨pu_R M5 (a + 385) (ql8 (M (a + 385))), ?_, k6 _ n8_R row_R⟩
      show f_X3_lane z (a + 383) _ = _
      have e7 : ld9 z (wr9 M2 (a + 391) 0 (nI (kn8 (M (a + 385))))) 10 (a + 385) 0 = some (nI (kn8 (M (a + 385)))) := by
        rw [show (0 : Int32) = nI 0 from rfl, ld_k (hz_now hz) (by decide) (by decide), wr_na (by omega), f2 _ _ (by omega), c1 _ _ (by omega) (fun _ => by omega), e0]
      unfold f_X3_lane
      rw [hz_r2 hz, sb_k, e7, sb_k, if_neg (show ¬ (3 : Int32) ≤ nI _ from nI_ge (b := 3) hn (by decide))]
      unfold f_X3_lane_b16
      rw [iv_k (hz_x0 hz), m_ref0 (hz_x0 hz), bi_k, if_pos rfl, iv_k (hz_x0 hz), t5, bv_k, hz_r2 hz, sb_k, t6, bi_k]
      rfl
  · refine ag_throw (e := 1) (b := 0) h (by decide) ?_ ?_
    · have hx : f_X2_lane z a M = some (.inr "java/lang/IllegalStateException", M) := by
        unfold f_X2_lane
        rw [hz_rP hz, sb_k, gf_k (hz_P hz).1, sb_k, (g8_2 hP).1, if_neg (show ¬ nI _ < 3 from nI_nlt (b := 3) (by omega) (by omega))]
        rfl
      show f_L_lane z a (a + 391) M = _
      unfold f_L_lane
      rw [iv_k hz.1.1, hx, bh_r, if_pos rfl]
      rfl
    · show f_X3_lane z (a + 383) M = _
      have e7 : ld9 z M 10 (a + 385) 0 = some (nI (kn8 (M (a + 385)))) := by
        rw [show (0 : Int32) = nI 0 from rfl, ld_k (hz_now hz) (by decide) (by decide), e0]
      unfold f_X3_lane
      rw [hz_r2 hz, sb_k, e7, sb_k, if_pos (show (3 : Int32) ≤ nI _ from nI_le (a := 3) (by omega) (by omega))]
      unfold f_X3_lane_b16
      rw [iv_k (hz_x0 hz), m_ref1 (hz_x0 hz) (by decide), bi_k, if_neg (by decide)]
      rfl
end RM
