section SA
variable {z : Sh9} {M M' M1 M2 M6 N N' : Mem9} {g x y x0 n c b sg B B' l a A gg w h d d1 d2 u v q k lo hi i p T : Nat} {Q Q' Q0 R : Nat → Int32} {s : Nat → Int32}
theorem row_w11 {v : Int32} (hN : N (a + 386) = Q) : wr9 N (a + 383) 11 v (a + 386) = Q := (wr9_ne (by omega)).trans hN
theorem row_w12 {v : Int32} (hN : N (a + 386) = Q) : wr9 N (a + 383) 12 v (a + 386) = Q := (wr9_ne (by omega)).trans hN
/-- the end of a command of the model's -/
theorem m_end {v v0 : Int32} {len : Nat} (hz : HZ8 z a) (h12 : N' (a + 383) 12 = N (a + 383) 12) (h11 : N' (a + 383) 11 = nI (p + len)) (hr : N' (a + 386) = Q') (hy : Y8 a N N') (hb : v = 0 ↔ v0 = 0) : f_X3_done z (a + 383) v N' = some (.inl (some (.int 1)), wr9 N' (a + 383) 12 (N (a + 383) 12 + (if v0 = 0 then 1 else 0))) ∧ wr9 N' (a + 383) 12 (N (a + 383) 12 + (if v0 = 0 then 1 else 0)) (a + 383) 11 = nI (p + len) ∧ wr9 N' (a + 383) 12 (N (a + 383) 12 + (if v0 = 0 then 1 else 0)) (a + 383) 12 = N (a + 383) 12 + (if v0 = 0 then 1 else 0) ∧ wr9 N' (a + 383) 12 (N (a + 383) 12 + (if v0 = 0 then 1 else 0)) (a + 386) = Q' ∧ Y8 a N (wr9 N' (a + 383) 12 (N (a + 383) 12 + (if v0 = 0 then 1 else 0))) := by
  refine ⟨?_, by rw [wr_nk (by decide)]; exact h11, wr_eq, row_w12 hr, y8_trans hy (y8_w (by omega))⟩
  rw [m_done (hz_x0 hz), h12]
  by_cases e : v = 0
  · rw [if_pos e, if_pos (hb.mp e)]
  · rw [if_neg e, if_neg (fun q => e (hb.mpr q))]
/-- a letter and a lane: what both do -/
theorem tr_b (hz : HZ8 z a) (hp : p < T) (hT : T ≤ 120) (hQ : RI8 Q) (hL : s p = 98) : TW8 z a T s p Q ∨ TR8 z a T s p Q := by
  have hfl : fl8 (s p) = 2 := by rw [hL]; rfl
  have hws : ∀ M, TT8 M a T s → f_X2_wrongSignOf z a (nI p) M = f_X2_wrongSignOf_b20 z (fx9 (fun _ _ _ _ _ _ => none) (f_X2_wrongSignOf_b20 z) 5999) a (nI p) 98 (nI 2) (nI 1) M := fun M h => by
    rw [ws_pre hz h (by omega) (by rw [hfl]; decide), hfl, hL, show FU9 = 5999 + 1 from rfl, fx_k]
  have hrc : ∀ N, TT8 N a T s → N (a + 383) 11 = nI p → f_X3_readCommand z (a + 383) (a + 386) N = bi9 (f_X3_figures z (a + 383) (0 : Int32) (1 : Int32) (0 : Int32) (2 : Int32) (wr9 N (a + 383) 11 (nI (p + 1)))) fun v7 M6 => (if v7 = (-1 : Int32) then (rz9 (0 : Int32) M6) else (bi9 (f_X3_isLane z (a + 386) v7 M6) fun v9 M8 => (if v9 = 0 then (f_X3_readCommand_b244 z (a + 383) M8) else (bi9 (f_X3_loopOn z (a + 386) v7 (1 : Int32) M8) fun v11 M10 => (if v11 ≤ 0 then (f_X3_readCommand_b244 z (a + 383) M10) else (f_X3_readCommand_b245 z (1 : Int32) (a + 383) M10)))))) := fun N h hs => by
    unfold f_X3_readCommand
    rw [hz_r1 hz, sb_k, gf_k (hz_x0 hz), sb_k, hs, ld_k hz.2.1.2.1 (by omega) (by decide), sb_k, (h.2.2.2.1 p hp).2.1, hL, sb_k, pf_k (hz_x0 hz), sb_k, nI_1, if_pos rfl, iv_k (hz_x0 hz)]
  have hal : ∀ b : Int32, al8 98 1 b (s (p + 1)) ↔ 48 ≤ (s (p + 1)).toInt ∧ (s (p + 1)).toInt ≤ 50 := fun b => al_o1 (by decide)
  by_cases hd : 48 ≤ (s (p + 1)).toInt ∧ (s (p + 1)).toInt ≤ 50
  · right
    obtain ⟨d, d1, d2, d3⟩ := s_dig hd.1 (by omega)
    have hd2 : d ≤ 2 := by omega
    have hcl : ∀ M, TT8 M a T s → f_X2_wrongSignOf z a (nI p) M = some (.inl (some (.int (-1))), M) ∧ f_X2_commandLength z a (nI p) M = some (.inl (some (.int (nI 2))), M) := fun M h => by
      refine ⟨?_, by rw [x2_len hz h (by omega) (by rw [hL]; decide), hfl]⟩
      rw [hws M h, ws_yes hz h (by omega) (by omega) (by omega) (by omega) ((hal _).mpr hd), show 5999 = 5998 + 1 from rfl, fx_k, ws_end]
    have hdc : ∀ M, TT8 M a T s → f_X2_doCommand z a (nI p) M = bi9 (f_X0_changeLoop z (a + 2) (nI d) 1 M) fun v7 M6 => (rz9 v7 M6) := fun M h => by
      unfold f_X2_doCommand
      rw [iv_k hz.1.1, x2_sign hz h (by omega), bi_k, hL, if_pos rfl, hz_rP hz, sb_k, nI_1, iv_k hz.1.1, x2_digit hz h (by omega) d2, bi_k, iv_k (hz_P hz).1]
    have hfg : ∀ N, TT8 N a T s → f_X3_figures z (a + 383) 0 1 0 2 (wr9 N (a + 383) 11 (nI (p + 1))) = some (.inl (some (.int (nI d))), wr9 (wr9 N (a + 383) 11 (nI (p + 1))) (a + 383) 11 (nI (p + 1 + 1))) := fun N h => fg1_yes hz (tt_w11 h) wr_eq (by omega) d2 hd2
    have hv1 : b9 (1 : Int32) := Or.inr rfl
    by_cases hl : d < kn8 Q
    · refine ⟨2, 1, qb8 d 1 Q, by omega, by omega, Or.inr rfl, ri_qb hQ hl hv1, hcl, fun M B h hg => ?_, fun N h hs hN => ?_⟩
      · obtain ⟨M', t, f, g'⟩ := x0_loop (hz_P hz) hg hl hv1
        refine ⟨M', ?_, f, g8_mono g' (by omega)⟩
        rw [hdc M h, t, bi_k, rz_1]
      · have hr2 : wr9 (wr9 N (a + 383) 11 (nI (p + 1))) (a + 383) 11 (nI (p + 1 + 1)) (a + 386) = Q := row_w11 (row_w11 hN)
        have t := m_loopOn (M := wr9 (wr9 N (a + 383) 11 (nI (p + 1))) (a + 383) 11 (nI (p + 1 + 1))) (x := a + 386) (l := d) (v := 1) (hz_try hz) (by rw [hr2]; exact hQ) (by rw [hr2]; exact hl) hv1
        rw [hr2] at t
        obtain ⟨e1, e2⟩ := m_end (z := z) (a := a) (N := N) (N' := pu_R (wr9 (wr9 N (a + 383) 11 (nI (p + 1))) (a + 383) 11 (nI (p + 1 + 1))) (a + 386) (qb8 d 1 Q)) (Q' := qb8 d 1 Q) (p := p) (len := 2) (v := 1) (v0 := 1) hz (by rw [pr_o (by omega), wr_nk (by decide), wr_nk (by decide)]) (by rw [pr_o (by omega), wr_eq]) row_R (y8_trans (y8_trans (y8_w (by omega)) (y8_w (by omega))) y8_R) Iff.rfl
        refine ⟨_, ?_, e2⟩
        rw [hrc N h hs, hfg N h, bi_k, if_neg (nI_ne1 (by omega)), mx_lane (hz_try hz) hr2 hQ (by omega), bi_k, if_pos hl, if_neg (by decide), t, bi_k, if_neg ((rs_b hQ hl hv1).2 rfl)]
        unfold f_X3_readCommand_b245
        rw [iv_k (hz_x0 hz), e1, bi_k, if_neg (by decide), rz_1]
    · refine ⟨2, 0, Q, by omega, by omega, Or.inl rfl, hQ, hcl, fun M B h hg => ?_, fun N h hs hN => ?_⟩
      · refine ⟨M, ?_, f8_refl, g8_mono hg (by omega)⟩
        rw [hdc M h, x0_noloop (hz_P hz) hg (fun e => hl ((in_l (by omega)).mp e)), bi_k, rz_0]
      · have hr2 : wr9 (wr9 N (a + 383) 11 (nI (p + 1))) (a + 383) 11 (nI (p + 1 + 1)) (a + 386) = Q := row_w11 (row_w11 hN)
        obtain ⟨e1, e2⟩ := m_end (z := z) (a := a) (N := N) (N' := wr9 (wr9 N (a + 383) 11 (nI (p + 1))) (a + 383) 11 (nI (p + 1 + 1))) (Q' := Q) (p := p) (len := 2) (v := 0) (v0 := 0) hz (by rw [wr_nk (by decide), wr_nk (by decide)]) wr_eq hr2 (y8_trans (y8_w (by omega)) (y8_w (by omega))) Iff.rfl
        refine ⟨_, ?_, e2⟩
        rw [hrc N h hs, hfg N h, bi_k, if_neg (nI_ne1 (by omega)), mx_lane (hz_try hz) hr2 hQ (by omega), bi_k, if_neg hl, if_pos rfl]
        unfold f_X3_readCommand_b244 f_X3_readCommand_b245
        rw [iv_k (hz_x0 hz), e1, bi_k, if_neg (by decide), rz_1]
  · left
    refine ⟨p + 1, by omega, fun M h => ?_, fun N h hs hN => ⟨wr9 N (a + 383) 11 (nI (p + 1)), ?_, wr_eq, y8_w (by omega)⟩⟩
    · rw [hws M h, ws_no hz h (by omega) (by omega) (by omega) (by omega) (fun e => hd ((hal _).mp e))]
    · rw [hrc N h hs, fg1_no hz (tt_w11 h) wr_eq (by omega) hd, bi_k, if_pos rfl, rz_0]
theorem tr_m (hz : HZ8 z a) (hp : p < T) (hT : T ≤ 120) (hQ : RI8 Q) (hL : s p = 109) : TW8 z a T s p Q ∨ TR8 z a T s p Q := by
  have hfl : fl8 (s p) = 2 := by rw [hL]; rfl
  have hws : ∀ M, TT8 M a T s → f_X2_wrongSignOf z a (nI p) M = f_X2_wrongSignOf_b20 z (fx9 (fun _ _ _ _ _ _ => none) (f_X2_wrongSignOf_b20 z) 5999) a (nI p) 109 (nI 2) (nI 1) M := fun M h => by
    rw [ws_pre hz h (by omega) (by rw [hfl]; decide), hfl, hL, show FU9 = 5999 + 1 from rfl, fx_k]
  have hrc : ∀ N, TT8 N a T s → N (a + 383) 11 = nI p → f_X3_readCommand z (a + 383) (a + 386) N = bi9 (f_X3_figures z (a + 383) (0 : Int32) (1 : Int32) (0 : Int32) (2 : Int32) (wr9 N (a + 383) 11 (nI (p + 1)))) fun v23 M22 => (if v23 = (-1 : Int32) then (rz9 (0 : Int32) M22) else (bi9 (f_X3_canMend z (a + 386) v23 M22) fun v25 M24 => (if v25 = 0 then (f_X3_readCommand_b292 z (a + 383) M24) else (bi9 (f_X3_mendOn z (a + 386) v23 M24) fun v27 M26 => (if v27 < 0 then (f_X3_readCommand_b292 z (a + 383) M26) else (f_X3_readCommand_b293 z (1 : Int32) (a + 383) M26)))))) := fun N h hs => by
    unfold f_X3_readCommand
    rw [hz_r1 hz, sb_k, gf_k (hz_x0 hz), sb_k, hs, ld_k hz.2.1.2.1 (by omega) (by decide), sb_k, (h.2.2.2.1 p hp).2.1, hL, sb_k, pf_k (hz_x0 hz), sb_k, nI_1, if_neg (by decide), if_neg (by decide), if_pos rfl, iv_k (hz_x0 hz)]
  have hal : ∀ b : Int32, al8 109 1 b (s (p + 1)) ↔ 48 ≤ (s (p + 1)).toInt ∧ (s (p + 1)).toInt ≤ 50 := fun b => al_o1 (by decide)
  by_cases hd : 48 ≤ (s (p + 1)).toInt ∧ (s (p + 1)).toInt ≤ 50
  · right
    obtain ⟨d, d1, d2, d3⟩ := s_dig hd.1 (by omega)
    have hd2 : d ≤ 2 := by omega
    have hcl : ∀ M, TT8 M a T s → f_X2_wrongSignOf z a (nI p) M = some (.inl (some (.int (-1))), M) ∧ f_X2_commandLength z a (nI p) M = some (.inl (some (.int (nI 2))), M) := fun M h => by
      refine ⟨?_, by rw [x2_len hz h (by omega) (by rw [hL]; decide), hfl]⟩
      rw [hws M h, ws_yes hz h (by omega) (by omega) (by omega) (by omega) ((hal _).mpr hd), show 5999 = 5998 + 1 from rfl, fx_k, ws_end]
    have hdc : ∀ M, TT8 M a T s → f_X2_doCommand z a (nI p) M = bi9 (f_X0_mendArm z (a + 2) (nI d) M) fun v7 M6 => (rz9 v7 M6) := fun M h => by
      unfold f_X2_doCommand
      rw [iv_k hz.1.1, x2_sign hz h (by omega), bi_k, hL, if_neg (by decide), if_neg (by decide), if_pos rfl, hz_rP hz, sb_k, nI_1, iv_k hz.1.1, x2_digit hz h (by omega) d2, bi_k, iv_k (hz_P hz).1]
    have hfg : ∀ N, TT8 N a T s → f_X3_figures z (a + 383) 0 1 0 2 (wr9 N (a + 383) 11 (nI (p + 1))) = some (.inl (some (.int (nI d))), wr9 (wr9 N (a + 383) 11 (nI (p + 1))) (a + 383) 11 (nI (p + 1 + 1))) := fun N h => fg1_yes hz (tt_w11 h) wr_eq (by omega) d2 hd2
    by_cases hc : cm8 Q d
    · refine ⟨2, 1, qm8 d Q, by omega, by omega, Or.inr rfl, ri_qm hQ hc.1, hcl, fun M B h hg => ?_, fun N h hs hN => ?_⟩
      · obtain ⟨M', t, f, g'⟩ := x0_mend (hz_P hz) hg hc.1 hc.2
        refine ⟨M', ?_, f, g8_mono g' (by omega)⟩
        rw [hdc M h, t, bi_k, rz_1]
      · have hr2 : wr9 (wr9 N (a + 383) 11 (nI (p + 1))) (a + 383) 11 (nI (p + 1 + 1)) (a + 386) = Q := row_w11 (row_w11 hN)
        have t := m_mendOn (M := wr9 (wr9 N (a + 383) 11 (nI (p + 1))) (a + 383) 11 (nI (p + 1 + 1))) (x := a + 386) (l := d) (hz_try hz) (by have := hQ.2.1; have := hc.1; omega)
        rw [hr2] at t
        obtain ⟨h', hh1, hh2⟩ := (hQ.2.2.2 d hc.1).2.2.1
        obtain ⟨e1, e2⟩ := m_end (z := z) (a := a) (N := N) (N' := pu_R (wr9 (wr9 N (a + 383) 11 (nI (p + 1))) (a + 383) 11 (nI (p + 1 + 1))) (a + 386) (qm8 d Q)) (Q' := qm8 d Q) (p := p) (len := 2) (v := 1) (v0 := 1) hz (by rw [pr_o (by omega), wr_nk (by decide), wr_nk (by decide)]) (by rw [pr_o (by omega), wr_eq]) row_R (y8_trans (y8_trans (y8_w (by omega)) (y8_w (by omega))) y8_R) Iff.rfl
        refine ⟨_, ?_, e2⟩
        rw [hrc N h hs, hfg N h, bi_k, if_neg (nI_ne1 (by omega)), mm_can (hz_try hz) hr2 hQ (by omega), bi_k, if_pos hc, if_neg (by decide), t, bi_k, hh2, if_neg (nI_pos (by omega))]
        unfold f_X3_readCommand_b293
        rw [iv_k (hz_x0 hz), e1, bi_k, if_neg (by decide), rz_1]
    · refine ⟨2, 0, Q, by omega, by omega, Or.inl rfl, hQ, hcl, fun M B h hg => ?_, fun N h hs hN => ?_⟩
      · refine ⟨M, ?_, f8_refl, g8_mono hg (by omega)⟩
        rw [hdc M h, xm_no (hz_P hz) hg (by omega) hc, bi_k, rz_0]
      · have hr2 : wr9 (wr9 N (a + 383) 11 (nI (p + 1))) (a + 383) 11 (nI (p + 1 + 1)) (a + 386) = Q := row_w11 (row_w11 hN)
        obtain ⟨e1, e2⟩ := m_end (z := z) (a := a) (N := N) (N' := wr9 (wr9 N (a + 383) 11 (nI (p + 1))) (a + 383) 11 (nI (p + 1 + 1))) (Q' := Q) (p := p) (len := 2) (v := 0) (v0 := 0) hz (by rw [wr_nk (by decide), wr_nk (by decide)]) wr_eq hr2 (y8_trans (y8_w (by omega)) (y8_w (by omega))) Iff.rfl
        refine ⟨_, ?_, e2⟩
        rw [hrc N h hs, hfg N h, bi_k, if_neg (nI_ne1 (by omega)), mm_can (hz_try hz) hr2 hQ (by omega), bi_k, if_neg hc, if_pos rfl]
        unfold f_X3_readCommand_b292 f_X3_readCommand_b293
        rw [iv_k (hz_x0 hz), e1, bi_k, if_neg (by decide), rz_1]
  · left
    refine ⟨p + 1, by omega, fun M h => ?_, fun N h hs hN => ⟨wr9 N (a + 383) 11 (nI (p + 1)), ?_, wr_eq, y8_w (by omega)⟩⟩
    · rw [hws M h, ws_no hz h (by omega) (by omega) (by omega) (by omega) (fun e => hd ((hal _).mp e))]
    · rw [hrc N h hs, fg1_no hz (tt_w11 h) wr_eq (by omega) hd, bi_k, if_pos rfl, rz_0]
theorem tr_t (hz : HZ8 z a) (hp : p < T) (hT : T ≤ 120) (hQ : RI8 Q) (hL : s p = 116) : TW8 z a T s p Q ∨ TR8 z a T s p Q := by
  have hfl : fl8 (s p) = 3 := by rw [hL]; rfl
  have hws : ∀ M, TT8 M a T s → f_X2_wrongSignOf z a (nI p) M = f_X2_wrongSignOf_b20 z (fx9 (fun _ _ _ _ _ _ => none) (f_X2_wrongSignOf_b20 z) 5999) a (nI p) 116 (nI 3) (nI 1) M := fun M h => by
    rw [ws_pre hz h (by omega) (by rw [hfl]; decide), hfl, hL, show FU9 = 5999 + 1 from rfl, fx_k]
  have hrc : ∀ N, TT8 N a T s → N (a + 383) 11 = nI p → f_X3_readCommand z (a + 383) (a + 386) N = bi9 (f_X3_figures z (a + 383) (0 : Int32) (2 : Int32) (1 : Int32) (60 : Int32) (wr9 N (a + 383) 11 (nI (p + 1)))) fun v33 M32 => (if v33 = (-1 : Int32) then (rz9 (0 : Int32) M32) else (bi9 (f_X3_runOn z (a + 383) (a + 386) v33 M32) fun v35 M34 => (if v35 < 0 then (f_X3_readCommand_b335 z (0 : Int32) (a + 383) M34) else (f_X3_readCommand_b335 z (1 : Int32) (a + 383) M34)))) := fun N h hs => by
    unfold f_X3_readCommand
    rw [hz_r1 hz, sb_k, gf_k (hz_x0 hz), sb_k, hs, ld_k hz.2.1.2.1 (by omega) (by decide), sb_k, (h.2.2.2.1 p hp).2.1, hL, sb_k, pf_k (hz_x0 hz), sb_k, nI_1, if_neg (by decide), if_neg (by decide), if_neg (by decide), if_pos rfl, iv_k (hz_x0 hz)]
    refine congrArg _ ?_
    funext v33 M32
    by_cases e : v33 = -1
    · rw [if_pos e, if_pos e]
    · rw [if_neg e, if_neg e, iv_k (hz_x0 hz)]
  by_cases hd : 48 ≤ (s (p + 1)).toInt ∧ (s (p + 1)).toInt ≤ 54
  · obtain ⟨d1, e1, e2, e3⟩ := s_dig hd.1 (by omega)
    have hd6 : d1 ≤ 6 := by omega
    have hws1 : ∀ M, TT8 M a T s → f_X2_wrongSignOf z a (nI p) M = f_X2_wrongSignOf_b20 z (fx9 (fun _ _ _ _ _ _ => none) (f_X2_wrongSignOf_b20 z) 5998) a (nI p) 116 (nI 3) (nI 2) M := fun M h => by
      rw [hws M h, ws_yes hz h (by omega) (by omega) (by omega) (by omega) (al_t1.mpr hd), show 5999 = 5998 + 1 from rfl, fx_k]
    have c48 : s (p + 1) = 48 ↔ d1 = 0 := by rw [e2, show (48 : Int32) = nI 48 from rfl, nI_eq (by omega) (by omega)]; omega
    have c54 : s (p + 1) = 54 ↔ d1 = 6 := by rw [e2, show (54 : Int32) = nI 54 from rfl, nI_eq (by omega) (by omega)]; omega
    have hal2 : al8 116 2 (s (p + 2 - 1)) (s (p + 2)) ↔ ∃ d2, d2 < 10 ∧ s (p + 1 + 1) = nI (48 + d2) ∧ 1 ≤ 10 * d1 + d2 ∧ 10 * d1 + d2 ≤ 60 := by
      rw [al_t2, show p + 2 - 1 = p + 1 by omega]
      constructor
      · intro hh
        have hr : 48 ≤ (s (p + 2)).toInt ∧ (s (p + 2)).toInt ≤ 57 := by
          by_cases q0 : s (p + 1) = 48
          · rw [if_pos q0] at hh; omega
          · rw [if_neg q0] at hh
            by_cases q6 : s (p + 1) = 54
            · rw [if_pos q6] at hh; omega
            · rw [if_neg q6] at hh; exact hh
        obtain ⟨d2, f1, f2, f3⟩ := s_dig hr.1 hr.2
        refine ⟨d2, f1, f2, ?_⟩
        by_cases q0 : s (p + 1) = 48
        · rw [if_pos q0] at hh
          have := c48.mp q0
          omega
        · rw [if_neg q0] at hh
          have h0 : ¬ d1 = 0 := fun e => q0 (c48.mpr e)
          by_cases q6 : s (p + 1) = 54
          · rw [if_pos q6] at hh
            have := c54.mp q6
            omega
          · have h6 : ¬ d1 = 6 := fun e => q6 (c54.mpr e)
            omega
      · rintro ⟨d2, f1, f2, f3, f4⟩
        have f5 : (s (p + 2)).toInt = 48 + d2 := by
          rw [show p + 2 = p + 1 + 1 by omega, f2, nI_toInt (by omega)]
          omega
        by_cases q0 : s (p + 1) = 48
        · have := c48.mp q0
          rw [if_pos q0]
          omega
        · rw [if_neg q0]
          by_cases q6 : s (p + 1) = 54
          · have := c54.mp q6
            rw [if_pos q6]
            omega
          · rw [if_neg q6]
            omega
    by_cases hd2 : ∃ d2, d2 < 10 ∧ s (p + 1 + 1) = nI (48 + d2) ∧ 1 ≤ 10 * d1 + d2 ∧ 10 * d1 + d2 ≤ 60
    · right
      have ha2 := hal2.mpr hd2
      obtain ⟨d2, f1, f2, f3, f4⟩ := hd2
      have hcl : ∀ M, TT8 M a T s → f_X2_wrongSignOf z a (nI p) M = some (.inl (some (.int (-1))), M) ∧ f_X2_commandLength z a (nI p) M = some (.inl (some (.int (nI 3))), M) := fun M h => by
        refine ⟨?_, by rw [x2_len hz h (by omega) (by rw [hL]; decide), hfl]⟩
        rw [hws1 M h, ws_yes hz h (by omega) (by omega) (by omega) (by omega) ha2, show 5998 = 5997 + 1 from rfl, fx_k, ws_end]
      have hfg : ∀ N, TT8 N a T s → f_X3_figures z (a + 383) 0 2 1 60 (wr9 N (a + 383) 11 (nI (p + 1))) = some (.inl (some (.int (nI (10 * d1 + d2)))), wr9 (wr9 (wr9 N (a + 383) 11 (nI (p + 1))) (a + 383) 11 (nI (p + 1 + 1))) (a + 383) 11 (nI (p + 1 + 1 + 1))) := fun N h => fg2_yes (k := 0) (lo := 1) (hi := 60) hz (tt_w11 h) wr_eq (by omega) (by omega) e2 e1 f2 f1 (by omega) f4 f3
      refine ⟨3, 1, rn8 (10 * d1 + d2) Q, by omega, by omega, Or.inr rfl, ri_rn hQ, hcl, fun M B h hg => ?_, fun N h hs hN => ?_⟩
      · obtain ⟨M', t, f, g'⟩ := x0_lets (N := 10 * d1 + d2) (hz_P hz) hg f3 f4
        refine ⟨M', ?_, f, g8_mono g' (by omega)⟩
        unfold f_X2_doCommand
        rw [iv_k hz.1.1, x2_sign hz h (by omega), bi_k, hL, if_neg (by decide), if_neg (by decide), if_neg (by decide), if_pos rfl, hz_rP hz, sb_k, nI_1, iv_k hz.1.1, x2_two hz h (by omega) e2 f2, bi_k, iv_k (hz_P hz).1, t, bi_k, rz_1]
      · have hr3 : wr9 (wr9 (wr9 N (a + 383) 11 (nI (p + 1))) (a + 383) 11 (nI (p + 1 + 1))) (a + 383) 11 (nI (p + 1 + 1 + 1)) (a + 386) = Q := row_w11 (row_w11 (row_w11 hN))
        obtain ⟨N1, t, n1, r1, -⟩ := m_runOn (M := wr9 (wr9 (wr9 N (a + 383) 11 (nI (p + 1))) (a + 383) 11 (nI (p + 1 + 1))) (a + 383) 11 (nI (p + 1 + 1 + 1))) (x0 := a + 383) (x := a + 386) (N := 10 * d1 + d2) (hz_x0 hz) (hz_mov hz) (hz_try hz) hz_n1 hz_n2 (by omega) (by rw [hr3]; exact hQ)
        rw [hr3] at t r1
        obtain ⟨k1, k2⟩ := m_end (z := z) (a := a) (N := N) (N' := N1) (Q' := rn8 (10 * d1 + d2) Q) (p := p) (len := 3) (v := 1) (v0 := 1) hz (by rw [n1 _ _ (by omega) (by omega) (fun _ => by omega), wr_nk (by decide), wr_nk (by decide), wr_nk (by decide)]) (by rw [n1 _ _ (by omega) (by omega) (fun _ => by omega), wr_eq]) r1 (y8_trans (y8_trans (y8_trans (y8_w (by omega)) (y8_w (by omega))) (y8_w (by omega))) (y8_N n1)) Iff.rfl
        refine ⟨_, ?_, k2⟩
        rw [hrc N h hs, hfg N h, bi_k, if_neg (nI_ne1 (by omega)), t, bi_k, if_neg (rn_nn (by omega) hQ)]
        unfold f_X3_readCommand_b335
        rw [iv_k (hz_x0 hz), k1, bi_k, if_neg (by decide), rz_1]
    · left
      refine ⟨p + 2, by omega, fun M h => ?_, fun N h hs hN => ⟨wr9 (wr9 N (a + 383) 11 (nI (p + 1))) (a + 383) 11 (nI (p + 1 + 1)), ?_, wr_eq, y8_trans (y8_w (by omega)) (y8_w (by omega))⟩⟩
      · rw [hws1 M h, ws_no hz h (by omega) (by omega) (by omega) (by omega) (fun e => hd2 (hal2.mp e))]
      · have e := fg2_no2 (N := wr9 N (a + 383) 11 (nI (p + 1))) (k := 0) (lo := 1) (hi := 60) hz (tt_w11 h) wr_eq (by omega) (by omega) e2 e1 (by omega) (by omega) (by omega) (fun w w1 w2 => by
          by_cases e : 1 ≤ 10 * d1 + w ∧ 10 * d1 + w ≤ 60
          · exact absurd ⟨w, w1, w2, e.1, e.2⟩ hd2
          · omega)
        have e' : f_X3_figures z (a + 383) 0 2 1 60 (wr9 N (a + 383) 11 (nI (p + 1))) = _ := e
        rw [hrc N h hs, e', bi_k, if_pos rfl, rz_0]
  · left
    refine ⟨p + 1, by omega, fun M h => ?_, fun N h hs hN => ⟨wr9 N (a + 383) 11 (nI (p + 1)), ?_, wr_eq, y8_w (by omega)⟩⟩
    · rw [hws M h, ws_no hz h (by omega) (by omega) (by omega) (by omega) (fun e => hd (al_t1.mp e))]
    · have e := fg2_no1 (N := wr9 N (a + 383) 11 (nI (p + 1))) (k := 0) (lo := 1) (hi := 60) hz (tt_w11 h) wr_eq (by omega) (by omega) (by omega) (by omega) (fun d hd1 hd2 => by
        rw [hd2, nI_toInt (by omega)] at hd
        omega)
      have e' : f_X3_figures z (a + 383) 0 2 1 60 (wr9 N (a + 383) 11 (nI (p + 1))) = _ := e
      rw [hrc N h hs, e', bi_k, if_pos rfl, rz_0]
end SA
