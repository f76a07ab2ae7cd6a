section SB
variable {z : Sh9} {M M' M1 M2 M6 N N' : Mem9} {g x y x0 n c b sg B B' l a A gg w h d d1 d2 u v q k lo hi i p T : Nat} {Q Q' Q0 R : Nat → Int32} {s : Nat → Int32}
/-- the length of a v -/
def xx8 (s : Nat → Int32) (p : Nat) : Nat := if s (p + 4) = 120 then 1 else 0
def ff8 (s : Nat → Int32) (p : Nat) : Nat := if s (p + 4 + xx8 s p) = 102 then 1 else 0
theorem xx_le : xx8 s p ≤ 1 := by unfold xx8; split <;> omega
theorem ff_le : ff8 s p ≤ 1 := by unfold ff8; split <;> omega
theorem x2_vlen (hz : HZ8 z a) (h : TT8 M a T s) (hp : p < 400) (hL : s p = 118) : f_X2_commandLength z a (nI p) M = some (.inl (some (.int (nI (4 + xx8 s p + ff8 s p)))), M) := by
  have hx := xx_le (s := s) (p := p)
  have e36 : ∀ k : Nat, k ≤ 1 → f_X2_commandLength_b36 z a (nI p) (nI (4 + k)) M = some (.inl (some (.int (nI (4 + k + (if s (p + 4 + k) = 102 then 1 else 0))))), M) := by
    intro k hk
    unfold f_X2_commandLength_b36
    rw [nI_add, iv_k hz.1.1, x2_sign hz h (by omega), bi_k, show p + (4 + k) = p + 4 + k by omega]
    by_cases e : s (p + 4 + k) = 102
    · rw [if_pos e, if_pos e, nI_1]
      rfl
    · rw [if_neg e, if_neg e]
      rfl
  have hfl : fl8 (s p) = 4 := by rw [hL]; rfl
  unfold f_X2_commandLength
  rw [iv_k hz.1.1, x2_sign hz h (by omega), bi_k, x2_fix, bi_k, iv_k hz.1.1, x2_sign hz h (by omega), bi_k, if_pos hL, hfl, nI_add, iv_k hz.1.1, x2_sign hz h (by omega), bi_k]
  unfold ff8
  unfold xx8
  by_cases e : s (p + 4) = 120
  · rw [if_pos e, if_pos e, nI_1]
    exact e36 1 (by omega)
  · rw [if_neg e, if_neg e]
    exact e36 0 (by omega)
theorem nI_b {P : Prop} [Decidable P] : nI (if P then 1 else 0) = (if P then (1 : Int32) else 0) := by
  by_cases e : P
  · rw [if_pos e, if_pos e]; rfl
  · rw [if_neg e, if_neg e]; rfl
theorem x2_arrival (hz : HZ8 z a) (h : TT8 M a T s) (hp : p < 400) (hd : s (p + 1) = nI (48 + d)) (he : s (p + 2) = nI (48 + d1)) (hf : s (p + 3) = nI (48 + d2)) : f_X2_doArrival z a (nI p) M = bi9 (f_X0_addVehicle z (a + 2) (nI d) (nI (10 * d1 + d2)) (nI (xx8 s p)) (nI (ff8 s p)) M) fun v14 M13 => (rz9 v14 M13) := by
  have e45 : ∀ X F : Int32, f_X2_doArrival_b45 z a (nI p) X F M = bi9 (f_X0_addVehicle z (a + 2) (nI d) (nI (10 * d1 + d2)) X F M) fun v14 M13 => (rz9 v14 M13) := fun X F => by
    unfold f_X2_doArrival_b45
    rw [hz_rP hz, sb_k, nI_1, iv_k hz.1.1, x2_digit hz h (by omega) hd, bi_k, show (2 : Int32) = nI 2 from rfl, nI_add, iv_k hz.1.1, x2_two hz h (by omega) he hf, bi_k, iv_k (hz_P hz).1]
  have e32 : ∀ (X : Int32) (i : Nat), i < 900 → f_X2_doArrival_b32 z a (nI p) X (nI i) a M = bi9 (f_X0_addVehicle z (a + 2) (nI d) (nI (10 * d1 + d2)) X (nI (if s i = 102 then 1 else 0)) M) fun v14 M13 => (rz9 v14 M13) := fun X i hi => by
    unfold f_X2_doArrival_b32
    rw [iv_k hz.1.1, x2_sign hz h (by omega), bi_k, nI_b]
    by_cases e : s i = 102
    · rw [if_pos e, if_pos e, e45]
    · rw [if_neg e, if_neg e, e45]
  unfold f_X2_doArrival
  rw [show (4 : Int32) = nI 4 from rfl, nI_add, iv_k hz.1.1, x2_sign hz h (by omega), bi_k]
  unfold ff8
  unfold xx8
  by_cases e : s (p + 4) = 120
  · rw [if_pos e, if_pos e]
    unfold f_X2_doArrival_b17
    rw [if_neg (by decide), show (5 : Int32) = nI 5 from rfl, nI_add, e32 1 (p + 5) (by omega)]
    rfl
  · rw [if_neg e, if_neg e]
    unfold f_X2_doArrival_b17
    rw [if_pos rfl, show (4 : Int32) = nI 4 from rfl, nI_add, e32 0 (p + 4) (by omega)]
    rfl
theorem tr_v (hz : HZ8 z a) (hp : p < T) (hT : T ≤ 120) (hQ : RI8 Q) (hL : s p = 118) : TW8 z a T s p Q ∨ TR8 z a T s p Q := by
  have hfl : fl8 (s p) = 4 := by rw [hL]; rfl
  have hws : ∀ M, TT8 M a T s → f_X2_wrongSignOf z a (nI p) M = f_X2_wrongSignOf_b20 z (fx9 (fun _ _ _ _ _ _ => none) (f_X2_wrongSignOf_b20 z) 5999) a (nI p) 118 (nI 4) (nI 1) M := fun M h => by
    rw [ws_pre hz h (by omega) (by rw [hfl]; decide), hfl, hL, show FU9 = 5999 + 1 from rfl, fx_k]
  have hrc : ∀ N, TT8 N a T s → N (a + 383) 11 = nI p → f_X3_readCommand z (a + 383) (a + 386) N = bi9 (f_X3_figures z (a + 383) (0 : Int32) (1 : Int32) (0 : Int32) (2 : Int32) (wr9 N (a + 383) 11 (nI (p + 1)))) fun v40 M39 => (bi9 (f_X3_figures z (a + 383) v40 (2 : Int32) (2 : Int32) (12 : Int32) M39) fun v42 M41 => (if v42 = (-1 : Int32) then (f_X3_readCommand_b135 z (a + 383) (a + 386) v40 v42 M41) else (bi9 (f_X3_sign z (a + 383) (120 : Int32) M41) fun v44 M43 => (if v44 = 0 then (f_X3_readCommand_b135 z (a + 383) (a + 386) v40 v42 M43) else (f_X3_readCommand_b136 z (a + 383) (a + 386) v40 v42 (1 : Int32) M43))))) := fun N h hs => by
    unfold f_X3_readCommand
    rw [hz_r1 hz, sb_k, gf_k (hz_x0 hz), sb_k, hs, ld_k hz.2.1.2.1 (by omega) (by decide), sb_k, (h.2.2.2.1 p hp).2.1, hL, sb_k, pf_k (hz_x0 hz), sb_k, nI_1, if_neg (by decide), if_neg (by decide), if_neg (by decide), if_neg (by decide), if_pos rfl, iv_k (hz_x0 hz)]
    refine congrArg _ ?_
    funext v40 M39
    rw [iv_k (hz_x0 hz)]
    refine congrArg _ ?_
    funext v42 M41
    by_cases e : v42 = -1
    · rw [if_pos e, if_pos e]
    · rw [if_neg e, if_neg e, iv_k (hz_x0 hz)]
  have hm1 : ∀ (v40 : Int32) (M41 : Mem9), f_X3_readCommand_b135 z (a + 383) (a + 386) v40 (-1) M41 = some (.inl (some (.int 0)), M41) := fun v40 M41 => by
    unfold f_X3_readCommand_b135 f_X3_readCommand_b136 f_X3_readCommand_b157 f_X3_readCommand_b158
    rw [if_pos rfl, if_pos rfl, rz_0]
  by_cases hd : 48 ≤ (s (p + 1)).toInt ∧ (s (p + 1)).toInt ≤ 50
  · obtain ⟨d, e1, e2, e3⟩ := s_dig hd.1 (by omega)
    have hd2 : d ≤ 2 := by omega
    have hws1 : ∀ M, TT8 M a T s → f_X2_wrongSignOf z a (nI p) M = f_X2_wrongSignOf_b20 z (fx9 (fun _ _ _ _ _ _ => none) (f_X2_wrongSignOf_b20 z) 5998) a (nI p) 118 (nI 4) (nI 2) M := fun M h => by
      rw [hws M h, ws_yes hz h (by omega) (by omega) (by omega) (by omega) ((al_o1 (by decide)).mpr hd), show 5999 = 5998 + 1 from rfl, fx_k]
    have hf1 : ∀ N, TT8 N a T s → f_X3_figures z (a + 383) 0 1 0 2 (wr9 N (a + 383) 11 (nI (p + 1))) = some (.inl (some (.int (nI d))), wr9 (wr9 N (a + 383) 11 (nI (p + 1))) (a + 383) 11 (nI (p + 1 + 1))) := fun N h => fg1_yes hz (tt_w11 h) wr_eq (by omega) e2 hd2
    by_cases hg : 48 ≤ (s (p + 2)).toInt ∧ (s (p + 2)).toInt ≤ 49
    · obtain ⟨d1, f1, f2, f3⟩ := s_dig hg.1 (by omega)
      have hd1 : d1 ≤ 1 := by omega
      have hws2 : ∀ M, TT8 M a T s → f_X2_wrongSignOf z a (nI p) M = f_X2_wrongSignOf_b20 z (fx9 (fun _ _ _ _ _ _ => none) (f_X2_wrongSignOf_b20 z) 5997) a (nI p) 118 (nI 4) (nI 3) M := fun M h => by
        rw [hws1 M h, ws_yes hz h (by omega) (by omega) (by omega) (by omega) (al_v2.mpr hg), show 5998 = 5997 + 1 from rfl, fx_k]
      have c48 : s (p + 2) = 48 ↔ d1 = 0 := by rw [f2, show (48 : Int32) = nI 48 from rfl, nI_eq (by omega) (by omega)]; omega
      have hal3 : al8 118 3 (s (p + 3 - 1)) (s (p + 3)) ↔ ∃ d2, d2 < 10 ∧ s (p + 2 + 1) = nI (48 + d2) ∧ 2 ≤ 10 * d1 + d2 ∧ 10 * d1 + d2 ≤ 12 := by
        rw [al_v3, show p + 3 - 1 = p + 2 by omega]
        constructor
        · intro hh
          have hr : 48 ≤ (s (p + 3)).toInt ∧ (s (p + 3)).toInt ≤ 57 := by
            by_cases q0 : s (p + 2) = 48
            · rw [if_pos q0] at hh; omega
            · rw [if_neg q0] at hh; omega
          obtain ⟨d2, i1, i2, i3⟩ := s_dig hr.1 hr.2
          refine ⟨d2, i1, i2, ?_⟩
          by_cases q0 : s (p + 2) = 48
          · rw [if_pos q0] at hh
            have := c48.mp q0
            omega
          · rw [if_neg q0] at hh
            have h0 : ¬ d1 = 0 := fun e => q0 (c48.mpr e)
            omega
        · rintro ⟨d2, i1, i2, i3, i4⟩
          have f5 : (s (p + 3)).toInt = 48 + d2 := by
            rw [show p + 3 = p + 2 + 1 by omega, i2, nI_toInt (by omega)]
            omega
          by_cases q0 : s (p + 2) = 48
          · have := c48.mp q0
            rw [if_pos q0]
            omega
          · have h0 : ¬ d1 = 0 := fun e => q0 (c48.mpr e)
            rw [if_neg q0]
            omega
      by_cases hk : ∃ d2, d2 < 10 ∧ s (p + 2 + 1) = nI (48 + d2) ∧ 2 ≤ 10 * d1 + d2 ∧ 10 * d1 + d2 ≤ 12
      · right
        have ha3 := hal3.mpr hk
        obtain ⟨d2, i1, i2, i3, i4⟩ := hk
        have hxl := xx_le (s := s) (p := p)
        have hfl8 := ff_le (s := s) (p := p)
        have hX : b9 (nI (xx8 s p)) := b_d (by omega)
        have hF : b9 (nI (ff8 s p)) := b_d (by omega)
        have hcl : ∀ M, TT8 M a T s → f_X2_wrongSignOf z a (nI p) M = some (.inl (some (.int (-1))), M) ∧ f_X2_commandLength z a (nI p) M = some (.inl (some (.int (nI (4 + xx8 s p + ff8 s p)))), M) := fun M h => by
          refine ⟨?_, x2_vlen hz h (by omega) hL⟩
          rw [hws2 M h, ws_yes hz h (by omega) (by omega) (by omega) (by omega) ha3, show 5997 = 5996 + 1 from rfl, fx_k, ws_end]
        have hdc : ∀ M, TT8 M a T s → f_X2_doCommand z a (nI p) M = bi9 (bi9 (f_X0_addVehicle z (a + 2) (nI d) (nI (10 * d1 + d2)) (nI (xx8 s p)) (nI (ff8 s p)) M) fun v14 M13 => (rz9 v14 M13)) fun v26 M25 => (rz9 v26 M25) := fun M h => by
          unfold f_X2_doCommand
          rw [iv_k hz.1.1, x2_sign hz h (by omega), bi_k, hL, if_neg (by decide), if_neg (by decide), if_neg (by decide), if_neg (by decide), if_pos rfl, iv_k hz.1.1, x2_arrival hz h (by omega) e2 f2 i2]
        -- the model, up to the vehicle
        have hmod : ∀ N, TT8 N a T s → N (a + 383) 11 = nI p → N (a + 386) = Q → ∃ N1, f_X3_readCommand z (a + 383) (a + 386) N = (bi9 (f_X3_canArrive z (a + 386) (nI d) (nI (10 * d1 + d2)) N1) fun v66 M65 => (if v66 = 0 then (f_X3_readCommand_b195 z (a + 383) M65) else (bi9 (f_X3_arriveOn z (a + 386) (nI d) (nI (10 * d1 + d2)) (nI (xx8 s p)) (nI (ff8 s p)) M65) fun v68 M67 => (if v68 ≤ 0 then (f_X3_readCommand_b195 z (a + 383) M67) else (f_X3_readCommand_b196 z (1 : Int32) (a + 383) M67))))) ∧ N1 (a + 383) 11 = nI (p + (4 + xx8 s p + ff8 s p)) ∧ N1 (a + 383) 12 = N (a + 383) 12 ∧ N1 (a + 386) = Q ∧ Y8 a N N1 := by
          intro N h hs hN
          generalize hN2 : wr9 (wr9 (wr9 (wr9 N (a + 383) 11 (nI (p + 1))) (a + 383) 11 (nI (p + 1 + 1))) (a + 383) 11 (nI (p + 1 + 1 + 1))) (a + 383) 11 (nI (p + 1 + 1 + 1 + 1)) = N2
          have t2 : TT8 N2 a T s := by rw [← hN2]; exact tt_w11 (tt_w11 (tt_w11 (tt_w11 h)))
          have s2 : N2 (a + 383) 11 = nI (p + 4) := by rw [← hN2, wr_eq]
          have o2 : N2 (a + 383) 12 = N (a + 383) 12 := by rw [← hN2, wr_nk (by decide), wr_nk (by decide), wr_nk (by decide), wr_nk (by decide)]
          have r2 : N2 (a + 386) = Q := by rw [← hN2]; exact row_w11 (row_w11 (row_w11 (row_w11 hN)))
          have y2 : Y8 a N N2 := by rw [← hN2]; exact y8_trans (y8_trans (y8_trans (y8_w (by omega)) (y8_w (by omega))) (y8_w (by omega))) (y8_w (by omega))
          have hf2 : f_X3_figures z (a + 383) (nI d) 2 2 12 (wr9 (wr9 N (a + 383) 11 (nI (p + 1))) (a + 383) 11 (nI (p + 1 + 1))) = some (.inl (some (.int (nI (10 * d1 + d2)))), N2) := by
            rw [← hN2]
            exact fg2_yes (k := d) (lo := 2) (hi := 12) hz (tt_w11 (tt_w11 h)) wr_eq (by omega) (by omega) f2 f1 i2 i1 (by omega) i4 i3
          have hsx := m_sign (c9 := 120) hz t2 s2 (by omega)
          have eX : (if s (p + 4) = 120 then p + 4 + 1 else p + 4) = p + 4 + xx8 s p := by unfold xx8; split <;> rfl
          have eX2 : (if s (p + 4) = 120 then (1 : Int32) else 0) = nI (xx8 s p) := by unfold xx8; rw [nI_b]
          rw [eX, eX2] at hsx
          have hsf := m_sign (N := wr9 N2 (a + 383) 11 (nI (p + 4 + xx8 s p))) (c9 := 102) hz (tt_w11 t2) wr_eq (by omega)
          have eF : (if s (p + 4 + xx8 s p) = 102 then p + 4 + xx8 s p + 1 else p + 4 + xx8 s p) = p + (4 + xx8 s p + ff8 s p) := by unfold ff8; split <;> omega
          have eF2 : (if s (p + 4 + xx8 s p) = 102 then (1 : Int32) else 0) = nI (ff8 s p) := by unfold ff8; rw [nI_b]
          rw [eF, eF2] at hsf
          have e158 : ∀ F : Nat, F ≤ 1 → ∀ N3 : Mem9, f_X3_readCommand_b158 z (a + 383) (a + 386) (nI d) (nI (10 * d1 + d2)) (nI (xx8 s p)) (nI F) N3 = (bi9 (f_X3_canArrive z (a + 386) (nI d) (nI (10 * d1 + d2)) N3) fun v66 M65 => (if v66 = 0 then (f_X3_readCommand_b195 z (a + 383) M65) else (bi9 (f_X3_arriveOn z (a + 386) (nI d) (nI (10 * d1 + d2)) (nI (xx8 s p)) (nI F) M65) fun v68 M67 => (if v68 ≤ 0 then (f_X3_readCommand_b195 z (a + 383) M67) else (f_X3_readCommand_b196 z (1 : Int32) (a + 383) M67))))) := fun F _ N3 => by
            unfold f_X3_readCommand_b158
            rw [if_neg (nI_ne1 (by omega))]
          have e136 : f_X3_readCommand_b136 z (a + 383) (a + 386) (nI d) (nI (10 * d1 + d2)) (nI (xx8 s p)) (wr9 N2 (a + 383) 11 (nI (p + 4 + xx8 s p))) = (bi9 (f_X3_canArrive z (a + 386) (nI d) (nI (10 * d1 + d2)) (wr9 (wr9 N2 (a + 383) 11 (nI (p + 4 + xx8 s p))) (a + 383) 11 (nI (p + (4 + xx8 s p + ff8 s p))))) fun v66 M65 => (if v66 = 0 then (f_X3_readCommand_b195 z (a + 383) M65) else (bi9 (f_X3_arriveOn z (a + 386) (nI d) (nI (10 * d1 + d2)) (nI (xx8 s p)) (nI (ff8 s p)) M65) fun v68 M67 => (if v68 ≤ 0 then (f_X3_readCommand_b195 z (a + 383) M67) else (f_X3_readCommand_b196 z (1 : Int32) (a + 383) M67))))) := by
            rw [← e158 (ff8 s p) hfl8]
            unfold f_X3_readCommand_b136
            rw [if_neg (nI_ne1 (by omega)), iv_k (hz_x0 hz), hsf, bi_k]
            rcases (show ff8 s p = 0 ∨ ff8 s p = 1 by omega) with e | e
            · rw [e, if_pos (show nI 0 = 0 from rfl)]
              rfl
            · rw [e, if_neg (show ¬ nI 1 = 0 by decide)]
              rfl
          refine ⟨wr9 (wr9 N2 (a + 383) 11 (nI (p + 4 + xx8 s p))) (a + 383) 11 (nI (p + (4 + xx8 s p + ff8 s p))), ?_, wr_eq, by rw [wr_nk (by decide), wr_nk (by decide)]; exact o2, row_w11 (row_w11 r2), y8_trans y2 (y8_trans (y8_w (by omega)) (y8_w (by omega)))⟩
          rw [hrc N h hs, hf1 N h, bi_k, hf2, bi_k, if_neg (nI_ne1 (by omega)), hsx, bi_k, ← e136]
          rcases (show xx8 s p = 0 ∨ xx8 s p = 1 by omega) with e | e
          · rw [e, if_pos (show nI 0 = 0 from rfl)]
            rfl
          · rw [e, if_neg (show ¬ nI 1 = 0 by decide)]
            rfl
        by_cases hc : ca8 Q d (nI (10 * d1 + d2))
        · refine ⟨4 + xx8 s p + ff8 s p, 1, qa8 d (nI (10 * d1 + d2)) (nI (xx8 s p)) (nI (ff8 s p)) Q, by omega, by omega, Or.inr rfl, ri_qa hQ hc.1 hc.2.1.1 hc.2.1.2 hc.2.2 hX hF, hcl, fun M B h hg => ?_, fun N h hs hN => ?_⟩
          · obtain ⟨M', t, f, g'⟩ := x0_addV (hz_P hz) hg hc.1 hc.2.1.1 hc.2.1.2 hX hF hc.2.2
            refine ⟨M', ?_, f, g8_mono g' (by omega)⟩
            rw [hdc M h, t, bi_k, rz_1, bi_k, rz_1]
          · obtain ⟨N1, t1, p1, o1, r1, y1⟩ := hmod N h hs hN
            have t := m_arrive (M := N1) (x := a + 386) (l := d) (len := nI (10 * d1 + d2)) (hz_try hz) (by rw [r1]; exact hQ) (by rw [r1]; exact hc.1) (by rw [r1]; exact hc.2.2) hX hF
            rw [r1] at t
            obtain ⟨k1, k2⟩ := m_end (z := z) (a := a) (N := N) (N' := pu_R N1 (a + 386) (qa8 d (nI (10 * d1 + d2)) (nI (xx8 s p)) (nI (ff8 s p)) Q)) (Q' := qa8 d (nI (10 * d1 + d2)) (nI (xx8 s p)) (nI (ff8 s p)) Q) (p := p) (len := 4 + xx8 s p + ff8 s p) (v := 1) (v0 := 1) hz (by rw [pr_o (by omega)]; exact o1) (by rw [pr_o (by omega)]; exact p1) row_R (y8_trans y1 y8_R) Iff.rfl
            refine ⟨_, ?_, k2⟩
            rw [t1, ma_can (hz_try hz) r1 hQ (by omega), bi_k, if_pos hc, if_neg (by decide), t, bi_k, if_neg (nI_nle (by omega) (by have := hc.2.2; omega))]
            unfold f_X3_readCommand_b196
            rw [iv_k (hz_x0 hz), k1, bi_k, if_neg (by decide), rz_1]
        · refine ⟨4 + xx8 s p + ff8 s p, 0, Q, by omega, by omega, Or.inl rfl, hQ, hcl, fun M B h hg => ?_, fun N h hs hN => ?_⟩
          · refine ⟨M, ?_, f8_refl, g8_mono hg (by omega)⟩
            rw [hdc M h, xa_no (hz_P hz) hg (by omega) hc, bi_k, rz_0, bi_k, rz_0]
          · obtain ⟨N1, t1, p1, o1, r1, y1⟩ := hmod N h hs hN
            obtain ⟨k1, k2⟩ := m_end (z := z) (a := a) (N := N) (N' := N1) (Q' := Q) (p := p) (len := 4 + xx8 s p + ff8 s p) (v := 0) (v0 := 0) hz o1 p1 r1 y1 Iff.rfl
            refine ⟨_, ?_, k2⟩
            rw [t1, ma_can (hz_try hz) r1 hQ (by omega), bi_k, if_neg hc, if_pos rfl]
            unfold f_X3_readCommand_b195 f_X3_readCommand_b196
            rw [iv_k (hz_x0 hz), k1, bi_k, if_neg (by decide), rz_1]
      · left
        refine ⟨p + 3, by omega, fun M h => ?_, fun N h hs hN => ⟨wr9 (wr9 (wr9 N (a + 383) 11 (nI (p + 1))) (a + 383) 11 (nI (p + 1 + 1))) (a + 383) 11 (nI (p + 1 + 1 + 1)), ?_, wr_eq, y8_trans (y8_trans (y8_w (by omega)) (y8_w (by omega))) (y8_w (by omega))⟩⟩
        · rw [hws2 M h, ws_no hz h (by omega) (by omega) (by omega) (by omega) (fun e => hk (hal3.mp e))]
        · have e := fg2_no2 (N := wr9 (wr9 N (a + 383) 11 (nI (p + 1))) (a + 383) 11 (nI (p + 1 + 1))) (k := d) (lo := 2) (hi := 12) hz (tt_w11 (tt_w11 h)) wr_eq (by omega) (by omega) f2 f1 (by omega) (by omega) (by omega) (fun w w1 w2 => by
            by_cases e : 2 ≤ 10 * d1 + w ∧ 10 * d1 + w ≤ 12
            · exact absurd ⟨w, w1, w2, e.1, e.2⟩ hk
            · omega)
          have e' : f_X3_figures z (a + 383) (nI d) 2 2 12 (wr9 (wr9 N (a + 383) 11 (nI (p + 1))) (a + 383) 11 (nI (p + 1 + 1))) = _ := e
          rw [hrc N h hs, hf1 N h, bi_k, e', bi_k, if_pos rfl, hm1]
    · left
      refine ⟨p + 2, by omega, fun M h => ?_, fun N h hs hN => ⟨wr9 (wr9 N (a + 383) 11 (nI (p + 1))) (a + 383) 11 (nI (p + 1 + 1)), ?_, wr_eq, y8_trans (y8_w (by omega)) (y8_w (by omega))⟩⟩
      · rw [hws1 M h, ws_no hz h (by omega) (by omega) (by omega) (by omega) (fun e => hg (al_v2.mp e))]
      · have e := fg2_no1 (N := wr9 (wr9 N (a + 383) 11 (nI (p + 1))) (a + 383) 11 (nI (p + 1 + 1))) (k := d) (lo := 2) (hi := 12) hz (tt_w11 (tt_w11 h)) wr_eq (by omega) (by omega) (by omega) (by omega) (fun d' hd1 hd2 => by
          have hg' : ¬ (48 ≤ (s (p + 1 + 1)).toInt ∧ (s (p + 1 + 1)).toInt ≤ 49) := hg
          rw [hd2, nI_toInt (by omega)] at hg'
          omega)
        have e' : f_X3_figures z (a + 383) (nI d) 2 2 12 (wr9 (wr9 N (a + 383) 11 (nI (p + 1))) (a + 383) 11 (nI (p + 1 + 1))) = _ := e
        rw [hrc N h hs, hf1 N h, bi_k, e', bi_k, if_pos rfl, hm1]
  · left
    refine ⟨p + 1, by omega, fun M h => ?_, fun N h hs hN => ⟨wr9 N (a + 383) 11 (nI (p + 1)), ?_, wr_eq, y8_w (by omega)⟩⟩
    · rw [hws M h, ws_no hz h (by omega) (by omega) (by omega) (by omega) (fun e => hd ((al_o1 (by decide)).mp e))]
    · rw [hrc N h hs, fg1_no hz (tt_w11 h) wr_eq (by omega) hd, bi_k, fg_none, bi_k, if_pos rfl, hm1]
/-- any command of a text, on both sides -/
theorem tc_all (hz : HZ8 z a) (hp : p < T) (hT : T ≤ 120) (hQ : RI8 Q) : TW8 z a T s p Q ∨ TR8 z a T s p Q := by
  by_cases h98 : s p = 98
  · exact tr_b hz hp hT hQ h98
  · by_cases h108 : s p = 108
    · exact Or.inr (tr_l hz hp hT hQ h108)
    · by_cases h109 : s p = 109
      · exact tr_m hz hp hT hQ h109
      · by_cases h116 : s p = 116
        · exact tr_t hz hp hT hQ h116
        · by_cases h118 : s p = 118
          · exact tr_v hz hp hT hQ h118
          · exact Or.inl (tw_0 hz hp hT h98 h108 h109 h116 h118)
end SB
