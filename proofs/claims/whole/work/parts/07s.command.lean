section RZ
variable {z : Sh9} {M M' M1 M2 M6 N N' : Mem9} {g x y x0 n c b sg B B' l a A gg w h d d1 d2 u v q k lo hi i p T : Nat} {Q Q' Q0 R : Nat → Int32} {s : Nat → Int32}
/-! one command of a text, on both sides -/
def Y8 (a : Nat) (N N' : Mem9) : Prop := ∀ q k, q ≠ a + 386 → q ≠ a + 390 → (q = a + 383 → k ≠ 10 ∧ k ≠ 11 ∧ k ≠ 12) → N' q k = N q k
theorem y8_refl : Y8 a N N := fun _ _ _ _ _ => rfl
theorem y8_trans (h1 : Y8 a N N') (h2 : Y8 a N' M2) : Y8 a N M2 := fun q k a1 a2 a3 => (h2 q k a1 a2 a3).trans (h1 q k a1 a2 a3)
theorem y8_w {k : Nat} {v : Int32} (hk : k = 10 ∨ k = 11 ∨ k = 12) : Y8 a N (wr9 N (a + 383) k v) := fun q j _ _ h => by
  by_cases e : q = a + 383
  · rw [e, wr_nk (by have := h e; omega)]
  · exact wr_na e
theorem y8_R : Y8 a N (pu_R N (a + 386) Q) := fun q k h _ _ => pr_o h
theorem y8_N (f : N8 (a + 383) (a + 386) N N') : Y8 a N N' := fun q k h1 h2 h3 => f q k h1 (by omega) (fun e => (h3 e).1)
theorem tt_y (h : TT8 N a T s) (f : Y8 a N N') : TT8 N' a T s := tt_f h (fun q k hq => f q k (by omega) (by omega) (fun _ => by omega))
def TW8 (z : Sh9) (a T : Nat) (s : Nat → Int32) (p : Nat) (Q : Nat → Int32) : Prop := ∃ q, q ≤ 200 ∧ (∀ M, TT8 M a T s → f_X2_wrongSignOf z a (nI p) M = some (.inl (some (.int (nI q))), M)) ∧ (∀ N, TT8 N a T s → N (a + 383) 11 = nI p → N (a + 386) = Q → ∃ N', f_X3_readCommand z (a + 383) (a + 386) N = some (.inl (some (.int 0)), N') ∧ N' (a + 383) 11 = nI q ∧ Y8 a N N')
def TR8 (z : Sh9) (a T : Nat) (s : Nat → Int32) (p : Nat) (Q : Nat → Int32) : Prop := ∃ (len : Nat) (v : Int32) (Q' : Nat → Int32), 1 ≤ len ∧ len ≤ 6 ∧ b9 v ∧ RI8 Q' ∧ (∀ M, TT8 M a T s → f_X2_wrongSignOf z a (nI p) M = some (.inl (some (.int (-1))), M) ∧ f_X2_commandLength z a (nI p) M = some (.inl (some (.int (nI len))), M)) ∧ (∀ M B, TT8 M a T s → GR8 M (a + 2) Q B → ∃ M', f_X2_doCommand z a (nI p) M = some (.inl (some (.int v)), M') ∧ F8 M M' (a + 2) 21 ∧ GR8 M' (a + 2) Q' (B + 180)) ∧ (∀ N, TT8 N a T s → N (a + 383) 11 = nI p → N (a + 386) = Q → ∃ N', f_X3_readCommand z (a + 383) (a + 386) N = some (.inl (some (.int 1)), N') ∧ N' (a + 383) 11 = nI (p + len) ∧ N' (a + 383) 12 = N (a + 383) 12 + (if v = 0 then 1 else 0) ∧ N' (a + 386) = Q' ∧ Y8 a N N')
theorem x2_digit (hz : HZ8 z a) (h : TT8 M a T s) (hi : i < 900) (hd : s i = nI (48 + d)) : f_X2_digitAt z a (nI i) M = some (.inl (some (.int (nI d))), M) := by
  unfold f_X2_digitAt
  rw [iv_k hz.1.1, x2_sign hz h (by omega), bi_k, hd, s48]
  rfl
theorem x2_two (hz : HZ8 z a) (h : TT8 M a T s) (hi : i < 800) (hd : s i = nI (48 + d1)) (hd2 : s (i + 1) = nI (48 + d2)) : f_X2_twoDigitsAt z a (nI i) M = some (.inl (some (.int (nI (10 * d1 + d2)))), M) := by
  unfold f_X2_twoDigitsAt
  rw [iv_k hz.1.1, x2_digit hz h (by omega) hd, bi_k, nI_1, iv_k hz.1.1, x2_digit hz h (by omega) hd2, bi_k, e_10]
  rfl
theorem x2_len (hz : HZ8 z a) (h : TT8 M a T s) (hp : p < 500) (hL : ¬ s p = 118) : f_X2_commandLength z a (nI p) M = some (.inl (some (.int (nI (fl8 (s p))))), M) := by
  unfold f_X2_commandLength
  rw [iv_k hz.1.1, x2_sign hz h (by omega), bi_k, x2_fix, bi_k, iv_k hz.1.1, x2_sign hz h (by omega), bi_k, if_neg hL]
  rfl
theorem s_dig (h1 : 48 ≤ (s i).toInt) (h2 : (s i).toInt ≤ 57) : ∃ d, d < 10 ∧ s i = nI (48 + d) ∧ (s i).toInt = 48 + d := by
  obtain ⟨w, w1, w2⟩ := i32_ex (x := s i) (n := 57) (by omega) (by omega) (by omega)
  rw [w2, nI_toInt (by omega)] at h1
  refine ⟨w - 48, by omega, by rw [w2]; exact congrArg nI (by omega), ?_⟩
  rw [w2, nI_toInt (by omega)]
  omega
theorem m_done {v : Int32} (ho : RW9 z x0 3 0) : f_X3_done z x0 v N = some (.inl (some (.int 1)), wr9 N x0 12 (N x0 12 + (if v = 0 then 1 else 0))) := by
  unfold f_X3_done f_X3_done_b14
  rw [gf_k ho, sb_k]
  by_cases e : v = 0
  · rw [if_pos e, if_pos e, pf_k ho, sb_k, rz_1]
  · rw [if_neg e, if_neg e, pf_k ho, sb_k, rz_1]
theorem al_t1 {b v : Int32} : al8 116 1 b v ↔ 48 ≤ v.toInt ∧ v.toInt ≤ 54 := by
  unfold al8
  rw [if_pos rfl, if_pos rfl]
theorem al_t2 {b v : Int32} : al8 116 2 b v ↔ (if b = 48 then 49 ≤ v.toInt ∧ v.toInt ≤ 57 else if b = 54 then 48 ≤ v.toInt ∧ v.toInt ≤ 48 else 48 ≤ v.toInt ∧ v.toInt ≤ 57) := by
  unfold al8
  rw [if_pos rfl, if_neg (by decide)]
theorem al_o1 {L b v : Int32} (hL : ¬ L = 116) : al8 L 1 b v ↔ 48 ≤ v.toInt ∧ v.toInt ≤ 50 := by
  unfold al8
  rw [if_neg hL, if_pos rfl]
theorem al_v2 {b v : Int32} : al8 118 2 b v ↔ 48 ≤ v.toInt ∧ v.toInt ≤ 49 := by
  unfold al8
  rw [if_neg (by decide), if_neg (by decide), if_pos rfl]
theorem al_v3 {b v : Int32} : al8 118 3 b v ↔ (if b = 48 then 50 ≤ v.toInt ∧ v.toInt ≤ 57 else 48 ≤ v.toInt ∧ v.toInt ≤ 50) := by
  unfold al8
  rw [if_neg (by decide), if_neg (by decide), if_neg (by decide)]
/-- the model has read the letter -/
theorem m_rc {L : Int32} (hz : HZ8 z a) (h : TT8 N a T s) (hp : p < T) (hs : N (a + 383) 11 = nI p) (hL : s p = L) : (rf9 z (a + 383) 3 1).bind (fun v1 => (gf9 z N (a + 383) 3 11).bind fun v2 => ld9 z N 10 v1 v2) = some L ∧ pf9 z N (a + 383) 3 11 (nI p + 1) = some (wr9 N (a + 383) 11 (nI (p + 1))) := by
  have hT := h.1
  refine ⟨?_, by rw [pf_k (hz_x0 hz), nI_1]⟩
  rw [hz_r1 hz, sb_k, gf_k (hz_x0 hz), sb_k, hs, ld_k hz.2.1.2.1 (by omega) (by decide), (h.2.2.2.1 p hp).2.1, hL]
theorem tw_0 (hz : HZ8 z a) (hp : p < T) (hT : T ≤ 120) (h98 : ¬ s p = 98) (h108 : ¬ s p = 108) (h109 : ¬ s p = 109) (h116 : ¬ s p = 116) (h118 : ¬ s p = 118) : TW8 z a T s p Q := by
  refine ⟨p, by omega, fun M h => ws_0 hz h (by omega) ?_, fun N h hs hN => ⟨wr9 (wr9 N (a + 383) 11 (nI (p + 1))) (a + 383) 11 (nI p), ?_, wr_eq, y8_trans (y8_w (by omega)) (y8_w (by omega))⟩⟩
  · unfold fl8
    rw [if_neg h98, if_neg h108, if_neg h109, if_neg h116, if_neg h118]
  · unfold f_X3_readCommand
    rw [hz_r1 hz, sb_k, gf_k (hz_x0 hz), sb_k, hs, ld_k hz.2.1.2.1 (by omega) (by decide), sb_k, (h.2.2.2.1 p hp).2.1, sb_k, pf_k (hz_x0 hz), sb_k, nI_1, if_neg h98, if_neg h108, if_neg h109, if_neg h116, if_neg h118, gf_k (hz_x0 hz), sb_k, wr_eq, nI_pred, pf_k (hz_x0 hz), sb_k, rz_0]
theorem tr_l (hz : HZ8 z a) (hp : p < T) (hT : T ≤ 120) (hQ : RI8 Q) (hL : s p = 108) : TR8 z a T s p Q := by
  have hfl : fl8 (s p) = 1 := by rw [hL]; rfl
  have hcl : ∀ M, TT8 M a T s → f_X2_wrongSignOf z a (nI p) M = some (.inl (some (.int (-1))), M) ∧ f_X2_commandLength z a (nI p) M = some (.inl (some (.int (nI 1))), M) := fun M h => by
    refine ⟨?_, by rw [x2_len hz h (by omega) (by rw [hL]; decide), hfl]⟩
    rw [ws_pre hz h (by omega) (by rw [hfl]; decide), hfl, show FU9 = 5999 + 1 from rfl, fx_k, ws_end]
  have hrc : ∀ N, TT8 N a T s → N (a + 383) 11 = nI p → f_X3_readCommand z (a + 383) (a + 386) N = (ld9 z (wr9 N (a + 383) 11 (nI (p + 1))) 10 (a + 386) (0 : Int32)).bind fun v16 => (if (3 : Int32) ≤ v16 then (f_X3_readCommand_b91 z (a + 383) (wr9 N (a + 383) 11 (nI (p + 1)))) else (bi9 (f_X3_laneOn z (a + 386) (wr9 N (a + 383) 11 (nI (p + 1)))) fun v18 M17 => (if v18 < 0 then (f_X3_readCommand_b91 z (a + 383) M17) else (f_X3_readCommand_b92 z (1 : Int32) (a + 383) M17)))) := fun N h hs => by
    unfold f_X3_readCommand
    rw [hz_r1 hz, sb_k, gf_k (hz_x0 hz), sb_k, hs, ld_k hz.2.1.2.1 (by omega) (by decide), sb_k, (h.2.2.2.1 p hp).2.1, hL, sb_k, pf_k (hz_x0 hz), sb_k, nI_1, if_neg (by decide), if_pos rfl]
  have hdc : ∀ M, TT8 M a T s → f_X2_doCommand z a (nI p) M = bi9 (f_X0_addLane z (a + 2) M) fun v11 M10 => (rz9 v11 M10) := fun M h => by
    unfold f_X2_doCommand
    rw [iv_k hz.1.1, x2_sign hz h (by omega), bi_k, hL, if_neg (by decide), if_pos rfl, hz_rP hz, sb_k, iv_k (hz_P hz).1]
  have hrow : ∀ N : Mem9, N (a + 386) = Q → wr9 N (a + 383) 11 (nI (p + 1)) (a + 386) = Q := fun N hN => (wr9_ne (by omega)).trans hN
  have hld : ∀ N : Mem9, N (a + 386) = Q → ld9 z (wr9 N (a + 383) 11 (nI (p + 1))) 10 (a + 386) (0 : Int32) = some (nI (kn8 Q)) := fun N hN => by
    rw [show (0 : Int32) = nI 0 from rfl, ld_k (hz_try hz) (by decide) (by decide), hrow N hN, hQ.1]
  by_cases hn : kn8 Q < 3
  · refine ⟨1, 1, ql8 Q, by omega, by omega, Or.inr rfl, (ri_ql hQ hn).1, hcl, fun M B h hg => ?_, fun N h hs hN => ?_⟩
    · obtain ⟨M', t, f, g'⟩ := x0_addLane (hz_P hz) hg hn
      refine ⟨M', ?_, f, g8_mono g' (by omega)⟩
      rw [hdc M h, t, bi_k, rz_1]
    · have t := m_laneOn (M := wr9 N (a + 383) 11 (nI (p + 1))) (x := a + 386) (hz_try hz) (by rw [hrow N hN]; exact hQ) (by rw [hrow N hN]; exact hn)
      rw [hrow N hN] at t
      refine ⟨wr9 (pu_R (wr9 N (a + 383) 11 (nI (p + 1))) (a + 386) (ql8 Q)) (a + 383) 12 (N (a + 383) 12 + (if (1 : Int32) = 0 then 1 else 0)), ?_, ?_, wr_eq, ?_, y8_trans (y8_trans (y8_w (by omega)) y8_R) (y8_w (by omega))⟩
      · rw [hrc N h hs, hld N hN, sb_k, if_neg (show ¬ (3 : Int32) ≤ nI _ from nI_ge (b := 3) hn (by decide)), t, bi_k, if_neg (nI_pos (by omega))]
        unfold f_X3_readCommand_b92
        rw [iv_k (hz_x0 hz), m_done (hz_x0 hz), bi_k, rz_1, pr_o (by omega), wr_nk (by decide)]
      · rw [wr_nk (by decide), pr_o (by omega), wr_eq]
      · exact (wr9_ne (by omega)).trans row_R
  · refine ⟨1, 0, Q, by omega, by omega, Or.inl rfl, hQ, hcl, fun M B h hg => ?_, fun N h hs hN => ?_⟩
    · refine ⟨M, ?_, f8_refl, g8_mono hg (by omega)⟩
      rw [hdc M h, x0_noLane (hz_P hz) hg hn, bi_k, rz_0]
    · refine ⟨wr9 (wr9 N (a + 383) 11 (nI (p + 1))) (a + 383) 12 (N (a + 383) 12 + (if (0 : Int32) = 0 then 1 else 0)), ?_, ?_, wr_eq, ?_, y8_trans (y8_w (by omega)) (y8_w (by omega))⟩
      · rw [hrc N h hs, hld N hN, sb_k, if_pos (show (3 : Int32) ≤ nI _ from nI_le (a := 3) (by omega) (by have := hQ.2.1; omega))]
        unfold f_X3_readCommand_b91 f_X3_readCommand_b92
        rw [iv_k (hz_x0 hz), m_done (hz_x0 hz), bi_k, rz_1, wr_nk (by decide)]
      · rw [wr_nk (by decide), wr_eq]
      · exact (wr9_ne (by omega)).trans (hrow N hN)
end RZ
