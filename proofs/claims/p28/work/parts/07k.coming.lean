section RR
variable {z : Sh9} {M M' M1 M2 M6 N N' : Mem9} {g x y x0 n c b sg B B' l a A gg : Nat} {Q Q' p r : Nat → Int32} {g0 g1 g2 : Int32}
/-! hitsIn -/
theorem g8_hits (h : GR8 M g Q B) (hl : l < kn8 Q) : ∃ x, x ≤ B ∧ M (g + 3 + 6 * l) 15 = nI x := h.2.2.2.2.2.2.1 l hl
/-! coming -/
theorem g8_up (hG : G8 z g) (h : GR8 M g Q B) : f_X0_armsUp z g M = some (.inl (some (.int (au8 Q))), M) := by
  obtain ⟨e2, hn⟩ := g8_2 h
  rw [x0_armsUp hG e2 hn]
  refine congrArg (fun v => some (Sum.inl (some (Value.int v)), M)) (sm_cong (fun l hl => ?_))
  have e : pu_s Q l 1 = M (g + 3 + 6 * l) 6 := (g8_at h hl).2.1 1 (by omega)
  rw [e]
theorem xc_end {G G' : Nat → Int32 → Int32 → Int32 → Int32 → Mem9 → Re9} {N w v : Int32} : f_X2_coming_b57 z G a N w v N M = f_X2_coming_b57 z G' a N w v N M := by
  unfold f_X2_coming_b57
  rw [if_pos (show N ≤ N from Int32.le_refl N), if_pos (show N ≤ N from Int32.le_refl N)]
theorem xc_loop {N : Nat} {w : Int32} (hN : N < 1000) (hz : HZ8 z a) : ∀ rem k m M Q B v, k + rem = N → rem < m → GR8 M (a + 23) Q B → ∃ M', fx9 (fun _ _ _ _ _ _ => none) (f_X2_coming_b57 z) m a (nI N) w v (nI k) M = f_X2_coming_b57 z (fun _ _ _ _ _ _ => none) a (nI N) w (ur8 rem Q v) (nI N) M' ∧ F8 M M' (a + 23) 21 ∧ GR8 M' (a + 23) (rn8 rem Q) (B + 3 * rem) := by
  intro rem
  induction rem with
  | zero =>
    intro k m M Q B v hk hm h
    obtain ⟨m, rfl⟩ : ∃ q, m = q + 1 := ⟨m - 1, by omega⟩
    refine ⟨M, ?_, f8_refl, h⟩
    rw [fx_k, show k = N by omega]
    exact xc_end
  | succ rem ih =>
    intro k m M Q B v hk hm h
    obtain ⟨m, rfl⟩ : ∃ q, m = q + 1 := ⟨m - 1, by omega⟩
    obtain ⟨M1, t1, f1, g1⟩ := x0_lets (N := 1) (hz_C hz) h (by omega) (by omega)
    have g1' : GR8 M1 (a + 23) (tq8 Q) (B + 3) := g1
    have t1' : f_X0_letTicksGo z (a + 23) 1 M = some (.inl (some (.int 1)), M1) := t1
    obtain ⟨M2, t2, f2, g2⟩ := ih (k + 1) m M1 (tq8 Q) (B + 3) (v + au8 (tq8 Q)) (by omega) (by omega) g1'
    refine ⟨M2, ?_, f8_trans f1 f2, ?_⟩
    · rw [fx_k]
      show f_X2_coming_b57 z (fx9 (fun _ _ _ _ _ _ => none) (f_X2_coming_b57 z) m) a (nI N) w v (nI k) M = _
      have e : f_X2_coming_b57 z (fx9 (fun _ _ _ _ _ _ => none) (f_X2_coming_b57 z) m) a (nI N) w v (nI k) M = fx9 (fun _ _ _ _ _ _ => none) (f_X2_coming_b57 z) m a (nI N) w (v + au8 (tq8 Q)) (nI (k + 1)) M1 := by
        generalize fx9 (fun _ _ _ _ _ _ => none) (f_X2_coming_b57 z) m = G
        unfold f_X2_coming_b57
        rw [if_neg (nI_ge (by omega) (by omega)), hz_rC hz, sb_k, iv_k (hz_C hz).1, t1', bi_k, sb_k, iv_k (hz_C hz).1, g8_up (hz_C hz) g1', bi_k, nm_k, nI_1]
      rw [e]
      exact t2
    · rw [show B + 3 * (rem + 1) = B + 3 + 3 * rem by omega]
      exact g2
/-- what coming answers -/
def co8 (Qt Q : Nat → Int32) (N w : Nat) : Int32 := if w = 0 then rn8 N Qt 3 - Q 3 else if w = 1 then rn8 N Qt 4 - Q 4 else if w = 2 then rn8 N Qt 5 - Q 5 else if w = 3 then rs8 (rn8 N Qt) 0 else ur8 N Qt 0
theorem xc_val {N w : Nat} (hz : HZ8 z a) (hw : w < 5) (hP : GR8 M (a + 2) Q B) (hC : GR8 M (a + 23) (rn8 N Q') B') : f_X2_coming_b57 z (fun _ _ _ _ _ _ => none) a (nI N) (nI w) (ur8 N Q' 0) (nI N) M = some (.inl (some (.int (co8 Q' Q N w))), M) := by
  have p4 : f_X0_total z (a + 2) 4 M = some (.inl (some (.int (Q 3))), M) := (x0_tot (w := 4) (hz_P hz) hP (by decide) (by decide)).trans (by rw [ab_4])
  have p5 : f_X0_total z (a + 2) 5 M = some (.inl (some (.int (Q 4))), M) := (x0_tot (w := 5) (hz_P hz) hP (by decide) (by decide)).trans (by rw [ab_5])
  have p6 : f_X0_total z (a + 2) 6 M = some (.inl (some (.int (Q 5))), M) := (x0_tot (w := 6) (hz_P hz) hP (by decide) (by decide)).trans rfl
  have c4 : f_X0_total z (a + 23) 4 M = some (.inl (some (.int (rn8 N Q' 3))), M) := (x0_tot (w := 4) (hz_C hz) hC (by decide) (by decide)).trans (by rw [ab_4])
  have c5 : f_X0_total z (a + 23) 5 M = some (.inl (some (.int (rn8 N Q' 4))), M) := (x0_tot (w := 5) (hz_C hz) hC (by decide) (by decide)).trans (by rw [ab_5])
  have c6 : f_X0_total z (a + 23) 6 M = some (.inl (some (.int (rn8 N Q' 5))), M) := (x0_tot (w := 6) (hz_C hz) hC (by decide) (by decide)).trans rfl
  have c2 : f_X0_total z (a + 23) 2 M = some (.inl (some (.int (rs8 (rn8 N Q') 0))), M) := (x0_tot (w := 2) (hz_C hz) hC (by decide) (by decide)).trans rfl
  unfold f_X2_coming_b57 co8
  rw [if_pos (Int32.le_refl _)]
  rcases (show w = 0 ∨ w = 1 ∨ w = 2 ∨ w = 3 ∨ w = 4 by omega) with rfl | rfl | rfl | rfl | rfl
  · rw [if_pos (show nI 0 = 0 from rfl), hz_rC hz, sb_k, iv_k (hz_C hz).1, c4, bi_k, hz_rP hz, sb_k, iv_k (hz_P hz).1, p4, bi_k]
    rfl
  · rw [if_neg (show ¬ nI 1 = 0 by decide), if_pos (show nI 1 = 1 from rfl), hz_rC hz, sb_k, iv_k (hz_C hz).1, c5, bi_k, hz_rP hz, sb_k, iv_k (hz_P hz).1, p5, bi_k]
    rfl
  · rw [if_neg (show ¬ nI 2 = 0 by decide), if_neg (show ¬ nI 2 = 1 by decide), if_pos (show nI 2 = 2 from rfl), hz_rC hz, sb_k, iv_k (hz_C hz).1, c6, bi_k, hz_rP hz, sb_k, iv_k (hz_P hz).1, p6, bi_k]
    rfl
  · rw [if_neg (show ¬ nI 3 = 0 by decide), if_neg (show ¬ nI 3 = 1 by decide), if_neg (show ¬ nI 3 = 2 by decide), if_pos (show nI 3 = 3 from rfl), hz_rC hz, sb_k, iv_k (hz_C hz).1, c2, bi_k]
    rfl
  · rw [if_neg (show ¬ nI 4 = 0 by decide), if_neg (show ¬ nI 4 = 1 by decide), if_neg (show ¬ nI 4 = 2 by decide), if_neg (show ¬ nI 4 = 3 by decide)]
    rfl
end RR
