section RS
variable {z : Sh9} {M M' M1 M2 M6 N N' : Mem9} {g x y x0 n c b sg B B' l a A gg : Nat} {Q Q' R p r : Nat → Int32} {g0 g1 g2 len : Int32}
/-! bestLane -/
def tv8 (Q : Nat → Int32) (len : Int32) (l : Nat) : Int32 := if kc8 Q l < 6 then lt8 (Q 7) (Q 8) (Q 9) 401 0 (kc8 Q l) (kc8 Q l + 1) (ad9' (kc8 Q l) len 0 0 (pu_s Q l)) else -1
theorem tv_in (l : Nat) : tv8 Q len l = -1 ∨ ∃ k, k ≤ 400 ∧ tv8 Q len l = nI k := by
  unfold tv8
  by_cases h : kc8 Q l < 6
  · rw [if_pos h]
    exact lt_le _ _ _ _ _ (by omega)
  · rw [if_neg h]
    exact Or.inl rfl
theorem tv_row (hQ : RI8 Q) (hR : RI8 R) (hn : kn8 R = kn8 Q) (e : ∀ i, i < 121 → R i = Q i) (hl : l < kn8 Q) (hc : kc8 Q l < 6) (h2 : 2 ≤ len.toInt) (h12 : len.toInt ≤ 12) : kc8 R l = kc8 Q l ∧ kc8 (qa8 l len 0 0 R) l = kc8 Q l + 1 ∧ RI8 (qa8 l len 0 0 R) ∧ l < kn8 (qa8 l len 0 0 R) ∧ lt8 (qa8 l len 0 0 R 7) (qa8 l len 0 0 R 8) (qa8 l len 0 0 R 9) 401 0 (kc8 Q l) (kc8 Q l + 1) (pu_s (qa8 l len 0 0 R) l) = tv8 Q len l := by
  have hz0 : b9 0 := Or.inl rfl
  have hn3 := hQ.2.1
  have hl' : l < kn8 R := by rw [hn]; exact hl
  have ec : kc8 R l = kc8 Q l := by unfold kc8; rw [e _ (by omega)]
  have hc' : kc8 R l < 6 := by rw [ec]; exact hc
  obtain ⟨k1, k2⟩ := qa_kc hR hl' h2 h12 hc' hz0 hz0
  have hR1 := ri_qa hR hl' h2 h12 hc' hz0 hz0
  have hl1 : l < kn8 (qa8 l len 0 0 R) := by rw [k2]; exact hl'
  rw [ec] at k1
  have hI1 := hR1.2.2.2 l hl1
  rw [k1] at hI1
  refine ⟨ec, k1, hR1, hl1, ?_⟩
  have e7 : ∀ j, j < 10 → qa8 l len 0 0 R j = Q j := fun j hj => by
    unfold qa8
    rw [ps_h hj, e _ (by omega)]
  rw [e7 7 (by omega), e7 8 (by omega), e7 9 (by omega)]
  have hA0 : pu_A (pu_s R l) (pu_s Q l) (kc8 Q l) := fun j hj => e _ (by omega)
  have hA1 : pu_A (pu_s (qa8 l len 0 0 R) l) (ad9' (kc8 Q l) len 0 0 (pu_s Q l)) (kc8 Q l + 1) := fun j hj => by
    have e1 : pu_s (qa8 l len 0 0 R) l j = ad9' (kc8 R l) len 0 0 (pu_s R l) j := ps_l (by omega)
    rw [e1, ec]
    exact A_ad hA0 j hj
  unfold tv8
  rw [if_pos hc]
  exact lt_cong hQ.2.2.1 _ _ _ _ _ _ hA1 hI1 (by omega)
def bc8 (Q : Nat → Int32) (len : Int32) : Nat → Nat → Int32 → Int32 → Int32
  | 0, _, best, _ => best
  | rem + 1, l, best, soon => if tv8 Q len l = -1 then bc8 Q len rem (l + 1) best soon else if soon ≤ tv8 Q len l then bc8 Q len rem (l + 1) best soon else bc8 Q len rem (l + 1) (nI l) (tv8 Q len l)
def bm8 (Q : Nat → Int32) (len : Int32) : Nat → Nat → Int32 → Int32 → Int32
  | 0, _, best, _ => best
  | rem + 1, l, best, soon => if tv8 Q len l = -1 then bm8 Q len rem (l + 1) best soon else if best = -1 then bm8 Q len rem (l + 1) (nI l) (tv8 Q len l) else if soon ≤ tv8 Q len l then bm8 Q len rem (l + 1) best soon else bm8 Q len rem (l + 1) (nI l) (tv8 Q len l)
theorem nI_ne1 {k : Nat} (hk : k < 2 ^ 31) : ¬ nI k = -1 := by
  intro e
  have h := nI_pos (n := k) hk
  rw [e] at h
  exact h (by decide)
theorem bc_bm : ∀ rem l best sc sm, l + rem ≤ 3 → ((best = -1 ∧ sc = 401) ∨ (¬ best = -1 ∧ sc = sm)) → bc8 Q len rem l best sc = bm8 Q len rem l best sm := by
  intro rem
  induction rem with
  | zero => intro l best sc sm _ _; rfl
  | succ rem ih =>
    intro l best sc sm hl h
    unfold bc8 bm8
    by_cases h1 : tv8 Q len l = -1
    · rw [if_pos h1, if_pos h1]
      exact ih _ _ _ _ (by omega) h
    · rw [if_neg h1, if_neg h1]
      rcases h with ⟨e1, e2⟩ | ⟨e1, e2⟩
      · obtain ⟨k, k1, k2⟩ := (tv_in (Q := Q) (len := len) l).resolve_left h1
        rw [if_pos e1, e2, if_neg (by rw [k2]; exact nI_ge (b := 401) (by omega) (by decide))]
        exact ih _ _ _ _ (by omega) (Or.inr ⟨nI_ne1 (by omega), rfl⟩)
      · rw [if_neg e1, e2]
        by_cases h2 : sm ≤ tv8 Q len l
        · rw [if_pos h2, if_pos h2]
          exact ih _ _ _ _ (by omega) (Or.inr ⟨e1, rfl⟩)
        · rw [if_neg h2, if_neg h2]
          exact ih _ _ _ _ (by omega) (Or.inr ⟨nI_ne1 (by omega), rfl⟩)
theorem xb_loop (hz : HZ8 z a) (h2 : 2 ≤ len.toInt) (h12 : len.toInt ≤ 12) : ∀ rem l m M best soon, l + rem = kn8 Q → rem < m → GR8 M (a + 2) Q B → ∃ M', fx9 (fun _ _ _ _ _ _ => none) (f_X2_bestLane_b13 z) m a len best soon (nI l) M = some (.inl (some (.int (bc8 Q len rem l best soon))), M') ∧ F8 M M' (a + 23) 21 := by
  have hz0 : b9 0 := Or.inl rfl
  intro rem
  induction rem with
  | zero =>
    intro l m M best soon hl hm h
    obtain ⟨m, rfl⟩ : ∃ q, m = q + 1 := ⟨m - 1, by omega⟩
    have hn := (g8_2 h).2
    refine ⟨M, ?_, f8_refl⟩
    rw [fx_k]
    unfold f_X2_bestLane_b13
    rw [hz_rP hz, sb_k, gf_k (hz_P hz).1, sb_k, (g8_2 h).1, if_pos (nI_le (by omega) (by omega))]
    rfl
  | succ rem ih =>
    intro l m M best soon hl hm h
    obtain ⟨m, rfl⟩ : ∃ q, m = q + 1 := ⟨m - 1, by omega⟩
    have hn := (g8_2 h).2
    have hlQ : l < kn8 Q := by omega
    have hl3 : l < 3 := by omega
    have hQ := h.2.1
    have h6 := (hQ.2.2.2 l hlQ).2.1
    obtain ⟨M1, t1, f1, g1⟩ := x0_copy (hz_C hz) (hz_P hz) (by omega) h
    have hnext : ∀ M3 best' soon', F8 M M3 (a + 23) 21 → bc8 Q len (rem + 1) l best soon = bc8 Q len rem (l + 1) best' soon' → f_X2_bestLane_b13 z (fx9 (fun _ _ _ _ _ _ => none) (f_X2_bestLane_b13 z) m) a len best soon (nI l) M = fx9 (fun _ _ _ _ _ _ => none) (f_X2_bestLane_b13 z) m a len best' soon' (nI (l + 1)) M3 → ∃ M', fx9 (fun _ _ _ _ _ _ => none) (f_X2_bestLane_b13 z) (m + 1) a len best soon (nI l) M = some (.inl (some (.int (bc8 Q len (rem + 1) l best soon))), M') ∧ F8 M M' (a + 23) 21 := by
      intro M3 best' soon' f3 e1 e2
      obtain ⟨M', t', f'⟩ := ih (l + 1) m M3 best' soon' (by omega) (by omega) (g8_out h f3 (by omega))
      refine ⟨M', ?_, f8_trans f3 f'⟩
      rw [fx_k, e1]
      exact e2.trans t'
    by_cases hc : kc8 Q l < 6
    · obtain ⟨M2, t2, f2, g2⟩ := x0_addV (hz_C hz) g1 hlQ h2 h12 hz0 hz0 hc
      obtain ⟨-, k1, -, k3, k4⟩ := tv_row hQ hQ rfl (fun _ _ => rfl) hlQ hc h2 h12
      obtain ⟨M3, t3, f3⟩ := x2_cti (j := kc8 Q l) hz g2 k3 (by omega)
      rw [k1, k4] at t3
      have e5 : M2 (a + 23 + 3 + 6 * l) 5 = nI (kc8 Q l + 1) := by
        have := (g8_at g2 k3).2.2.2.2.1
        rw [k1] at this
        exact this
      have f13 := f8_trans f1 (f8_trans f2 f3)
      have e : ∀ G, f_X2_bestLane_b13 z G a len best soon (nI l) M = if tv8 Q len l = -1 then G a len best soon (nI l + 1) M3 else if soon ≤ tv8 Q len l then G a len best soon (nI l + 1) M3 else G a len (nI l) (tv8 Q len l) (nI l + 1) M3 := by
        intro G
        unfold f_X2_bestLane_b13
        rw [hz_rP hz, sb_k, gf_k (hz_P hz).1, sb_k, (g8_2 h).1, if_neg (nI_ge (by omega) (by omega)), hz_rC hz, sb_k, sb_k, iv_k (hz_C hz).1, t1, bv_k, sb_k, iv_k (hz_C hz).1, t2, bi_k, if_neg (by decide), sb_k, hz_rg (hz_C hz), sb_k, g8_la (hz_C hz) hl3, sb_k, gf_k ((hz_C hz).2.2.2 l hl3).1, sb_k, e5, nI_pred, iv_k hz.1.1, t3, bi_k]
      by_cases q1 : tv8 Q len l = -1
      · refine hnext M3 best soon f13 ?_ ?_
        · rw [bc8, if_pos q1]
        · rw [e, if_pos q1, nI_1]
      · by_cases q2 : soon ≤ tv8 Q len l
        · refine hnext M3 best soon f13 ?_ ?_
          · rw [bc8, if_neg q1, if_pos q2]
          · rw [e, if_neg q1, if_pos q2, nI_1]
        · refine hnext M3 (nI l) (tv8 Q len l) f13 ?_ ?_
          · rw [bc8, if_neg q1, if_neg q2]
          · rw [e, if_neg q1, if_neg q2, nI_1]
    · have q1 : tv8 Q len l = -1 := by
        unfold tv8
        rw [if_neg hc]
      have t2 := x0_noV (y := nI l) (len := len) (lost := 0) (fol := 0) (hz_C hz) g1 (fun e => hc (e.2.2 l rfl hl3))
      refine hnext M1 best soon f1 ?_ ?_
      · rw [bc8, if_pos q1]
      · unfold f_X2_bestLane_b13
        rw [hz_rP hz, sb_k, gf_k (hz_P hz).1, sb_k, (g8_2 h).1, if_neg (nI_ge (by omega) (by omega)), hz_rC hz, sb_k, sb_k, iv_k (hz_C hz).1, t1, bv_k, sb_k, iv_k (hz_C hz).1, t2, bi_k, if_pos rfl, nI_1]
theorem mb_loop (hz : HZ8 z a) (hQ : RI8 Q) (h2 : 2 ≤ len.toInt) (h12 : len.toInt ≤ 12) : ∀ rem l m N best soon, l + rem = kn8 Q → rem < m → N (a + 385) = Q → ∃ N', fx9 (fun _ _ _ _ _ _ => none) (f_X3_bestLane_b28 z) m (a + 383) len best soon (nI l) N = some (.inl (some (.int (bm8 Q len rem l best soon))), N') ∧ N8 (a + 383) (a + 386) N N' := by
  have hz0 : b9 0 := Or.inl rfl
  have hn := hQ.2.1
  intro rem
  induction rem with
  | zero =>
    intro l m N best soon hl hm h
    obtain ⟨m, rfl⟩ : ∃ q, m = q + 1 := ⟨m - 1, by omega⟩
    refine ⟨N, ?_, n8_refl⟩
    rw [fx_k]
    unfold f_X3_bestLane_b28
    rw [hz_r2 hz, sb_k, show (0 : Int32) = nI 0 from rfl, ld_k (hz_now hz) (by decide) (by decide), sb_k, h, hQ.1, if_pos (nI_le (by omega) (by omega))]
    rfl
  | succ rem ih =>
    intro l m N best soon hl hm h
    obtain ⟨m, rfl⟩ : ∃ q, m = q + 1 := ⟨m - 1, by omega⟩
    have hlQ : l < kn8 Q := by omega
    have hl3 : l < 3 := by omega
    have h6 := (hQ.2.2.2 l hlQ).2.1
    have e0 : ld9 z N 10 (a + 385) 0 = some (nI (kn8 Q)) := by
      rw [show (0 : Int32) = nI 0 from rfl, ld_k (hz_now hz) (by decide) (by decide), h, hQ.1]
    have eo : f_X3_of z (a + 385) (nI l) 0 N = some (.inl (some (.int (nI (kc8 Q l)))), N) := by
      have e := m_of (M := N) (x := a + 385) (l := l) (j := 0) (hz_now hz) hl3 (by decide)
      rw [h, (hQ.2.2.2 l hlQ).1] at e
      exact e
    have hnext : ∀ N3 best' soon', N8 (a + 383) (a + 386) N N3 → bm8 Q len (rem + 1) l best soon = bm8 Q len rem (l + 1) best' soon' → f_X3_bestLane_b28 z (fx9 (fun _ _ _ _ _ _ => none) (f_X3_bestLane_b28 z) m) (a + 383) len best soon (nI l) N = fx9 (fun _ _ _ _ _ _ => none) (f_X3_bestLane_b28 z) m (a + 383) len best' soon' (nI (l + 1)) N3 → ∃ N', fx9 (fun _ _ _ _ _ _ => none) (f_X3_bestLane_b28 z) (m + 1) (a + 383) len best soon (nI l) N = some (.inl (some (.int (bm8 Q len (rem + 1) l best soon))), N') ∧ N8 (a + 383) (a + 386) N N' := by
      intro N3 best' soon' f3 e1 e2
      obtain ⟨N', t', f'⟩ := ih (l + 1) m N3 best' soon' (by omega) (by omega) (by
        rw [← h]
        funext k
        exact f3 _ _ (by omega) (by omega) (fun _ => by omega))
      refine ⟨N', ?_, n8_trans f3 f'⟩
      rw [fx_k, e1]
      exact e2.trans t'
    by_cases hc : kc8 Q l < 6
    · generalize hRR : cp8 0 Q (N (a + 386)) = R
      have hRi : ∀ i, i < 121 → R i = Q i := fun i hi => by rw [← hRR]; exact cp_0 hi
      obtain ⟨hR, hRn, hRc⟩ := ri_row hQ (fun i hi _ => hRi i hi)
      have tc : f_X3_copyState z (a + 385) 0 (a + 386) 0 N = some (.inl none, pu_R N (a + 386) R) := by
        have hcp := m_copy (M := N) (x := a + 385) (y := a + 386) (fo := 0) (to := 0) (hz_now hz) (hz_try hz) (by omega) (by omega) (by omega) (by decide) (by decide)
        have e0 : (fun i => N (a + 385) (0 + i)) = Q := by
          funext i
          rw [Nat.zero_add, h]
        rw [e0, hRR] at hcp
        exact hcp
      obtain ⟨k0, k1, kR, k3, k4⟩ := tv_row hQ hR hRn hRi hlQ hc h2 h12
      have ta := m_arrive (M := pu_R N (a + 386) R) (x := a + 386) (l := l) (len := len) (hz_try hz) (by rw [row_R]; exact hR) (by rw [row_R, hRn]; exact hlQ) (by rw [row_R, k0]; exact hc) hz0 hz0
      rw [row_R, k0] at ta
      obtain ⟨N3, t3, n3⟩ := ml_through (l := l) hz 401 0 (kc8 Q l) FU9 (pu_R (pu_R N (a + 386) R) (a + 386) (qa8 l len 0 0 R)) (by omega) (by unfold FU9; omega) (by rw [row_R]; exact kR) (by rw [row_R]; exact k3) (by rw [row_R, k1]; omega)
      rw [row_R, k1, k4] at t3
      have t3' : f_X3_through z (a + 383) (a + 386) (nI l) (nI (kc8 Q l)) (pu_R (pu_R N (a + 386) R) (a + 386) (qa8 l len 0 0 R)) = some (.inl (some (.int (tv8 Q len l))), N3) := t3
      have n13 := n8_trans (n8_trans n8_R n8_R) n3
      have e : ∀ G, f_X3_bestLane_b28 z G (a + 383) len best soon (nI l) N = if tv8 Q len l = -1 then G (a + 383) len best soon (nI l + 1) N3 else if best = -1 then G (a + 383) len (nI l) (tv8 Q len l) (nI l + 1) N3 else if soon ≤ tv8 Q len l then G (a + 383) len best soon (nI l + 1) N3 else G (a + 383) len (nI l) (tv8 Q len l) (nI l + 1) N3 := by
        intro G
        unfold f_X3_bestLane_b28
        rw [hz_r2 hz, sb_k, e0, sb_k, if_neg (nI_ge (by omega) (by omega)), sb_k, eo, bi_k, if_neg (show ¬ (6 : Int32) ≤ nI _ from nI_ge (b := 6) hc (by decide)), sb_k, hz_r3 hz, sb_k, tc, bv_k, sb_k, sb_k, ta, bi_k, nI_pred, iv_k (hz_x0 hz), t3', bi_k]
        rfl
      by_cases q1 : tv8 Q len l = -1
      · refine hnext N3 best soon n13 ?_ ?_
        · rw [bm8, if_pos q1]
        · rw [e, if_pos q1, nI_1]
      · by_cases q3 : best = -1
        · refine hnext N3 (nI l) (tv8 Q len l) n13 ?_ ?_
          · rw [bm8, if_neg q1, if_pos q3]
          · rw [e, if_neg q1, if_pos q3, nI_1]
        · by_cases q2 : soon ≤ tv8 Q len l
          · refine hnext N3 best soon n13 ?_ ?_
            · rw [bm8, if_neg q1, if_neg q3, if_pos q2]
            · rw [e, if_neg q1, if_neg q3, if_pos q2, nI_1]
          · refine hnext N3 (nI l) (tv8 Q len l) n13 ?_ ?_
            · rw [bm8, if_neg q1, if_neg q3, if_neg q2]
            · rw [e, if_neg q1, if_neg q3, if_neg q2, nI_1]
    · have q1 : tv8 Q len l = -1 := by
        unfold tv8
        rw [if_neg hc]
      refine hnext N best soon n8_refl ?_ ?_
      · rw [bm8, if_pos q1]
      · unfold f_X3_bestLane_b28
        rw [hz_r2 hz, sb_k, e0, sb_k, if_neg (nI_ge (by omega) (by omega)), sb_k, eo, bi_k, if_pos (show (6 : Int32) ≤ nI _ from nI_le (a := 6) (by omega) (by omega)), nI_1]
theorem q_bestLane (hz : HZ8 z a) (h : SR8 M a B) : AG8 a M B (fun M => f_L_bestLane z a len (a + 391) M) (fun M => f_X3_bestLane z (a + 383) len M) := by
  have hP := h.2.1
  have hR := hP.2.1
  have hn := hR.2.1
  by_cases hlen : 2 ≤ len.toInt ∧ len.toInt ≤ 12
  · obtain ⟨M1, t1, f1⟩ := xb_loop hz hlen.1 hlen.2 (kn8 (M (a + 385))) 0 FU9 M (-1) 401 (by omega) (by unfold FU9; omega) hP
    rw [bc_bm (kn8 (M (a + 385))) 0 (-1) 401 0 (by omega) (Or.inl ⟨rfl, rfl⟩)] at t1
    refine ag_look (v := bm8 (M (a + 385)) len (kn8 (M (a + 385))) 0 (-1) 0) (M1 := M1) h ?_ f1 ?_
    · have hx : f_X2_bestLane z a len M = some (.inl (some (.int (bm8 (M (a + 385)) len (kn8 (M (a + 385))) 0 (-1) 0))), M1) := by
        unfold f_X2_bestLane
        rw [x2_length hlen, bv_k]
        exact t1
      show f_L_bestLane z a len (a + 391) M = _
      unfold f_L_bestLane
      rw [iv_k hz.1.1, hx, bh_k]
      exact sl_out hz
    · have e50 : wr9 (wr9 M1 (a + 391) 0 (bm8 (M (a + 385)) len (kn8 (M (a + 385))) 0 (-1) 0)) (a + 383) 0 0 (a + 385) = M (a + 385) := (w0_r (by omega)).trans (e_l5 f1)
      obtain ⟨N', t2, n2⟩ := mb_loop hz hR hlen.1 hlen.2 (kn8 (M (a + 385))) 0 FU9 _ (-1) 0 (by omega) (by unfold FU9; omega) e50
      refine ⟨N', ?_, n2⟩
      show f_X3_bestLane z (a + 383) len _ = _
      unfold f_X3_bestLane
      rw [em_isLength, bi_k, if_pos hlen, if_neg (by decide)]
      unfold f_X3_bestLane_b13
      rw [iv_k (hz_x0 hz), m_ref0 (hz_x0 hz), bi_k, if_pos rfl]
      exact t2
  · refine ag_throw (e := 1) (b := 0) h (by decide) ?_ ?_
    · show f_L_bestLane z a len (a + 391) M = _
      unfold f_L_bestLane f_X2_bestLane
      rw [iv_k hz.1.1, x2_noLength hlen, bv_r, bh_r, if_pos rfl]
      rfl
    · show f_X3_bestLane z (a + 383) len M = _
      unfold f_X3_bestLane
      rw [em_isLength, bi_k, if_neg hlen, if_pos rfl]
      unfold f_X3_bestLane_b13
      rw [iv_k (hz_x0 hz), m_ref1 (hz_x0 hz) (by decide), bi_k, if_neg (by decide)]
      rfl
end RS
