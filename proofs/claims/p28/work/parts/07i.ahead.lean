section RP
variable {z : Sh9} {M M' M1 M2 M6 N : Mem9} {g x y x0 n c b sg B B' l a A gg : Nat} {Q Q' p r : Nat → Int32} {g0 g1 g2 : Int32}
/-! one lane alone -/
/-- the lane b of the class, with the settings at sg -/
def LC8 (M : Mem9) (b sg c : Nat) (g0 g1 g2 : Int32) : Prop := pu_I (vc9 M b) c ∧ pu_B (vc9 M b) 6 ∧ M sg 0 = g0 ∧ M sg 1 = g1 ∧ M sg 2 = g2
theorem lc_tick (hL : pu_L z b) (hg : RW9 z sg 10 3) (ho : sg < b ∨ b + 5 < sg) (hgg : ∃ gg, gg ≤ 20 ∧ g2 = nI gg) (h : LC8 M b sg c g0 g1 g2) : ∃ M', f_X1_tick z b sg M = some (.inl none, M') ∧ F8 M M' b 6 ∧ LC8 M' b sg (cc9 c (vc9 M b)) g0 g1 g2 ∧ vc9 M' b = tk9 c g0 g1 g2 (vc9 M b) ∧ M' b 12 = (if ps9 c (mv9 (vc9 M b) c) then M b 12 + 1 else M b 12) ∧ M' b 15 = (if hp9 (cc9 c (vc9 M b)) (t3 (cc9 c (vc9 M b)) (ct9 (cc9 c (vc9 M b)) g0 g1 g2 (mo9 c (vc9 M b)))) then M b 15 + 1 else M b 15) := by
  obtain ⟨hI, hB, e0, e1, e2⟩ := h
  obtain ⟨gg, hg20, hgn⟩ := hgg
  have ht := x1_tick hL hg ho hI.1 hI.2.1 hB
  rw [e0, e1, e2] at ht
  have hI2 := pI_tick (g0 := g0) (g1 := g1) hg20 hI
  rw [← hgn] at hI2
  refine ⟨_, ht, f8_W, ⟨?_, ?_, ?_, ?_, ?_⟩, vc_W, ?_, ?_⟩
  · rw [vc_W]; exact hI2
  · rw [vc_W]; exact tk_B6 hI.2.1 hB
  · rw [pw_o (by omega)]; exact e0
  · rw [pw_o (by omega)]; exact e1
  · rw [pw_o (by omega)]; exact e2
  · rw [pw_12]; exact tt_0
  · rw [pw_15]; exact tt_3
/-- ticks until a lane is empty -/
def le8 (g0 g1 g2 : Int32) : Nat → Nat → Nat → (Nat → Int32) → Int32
  | 0, _, _, _ => -1
  | rem + 1, t, c, p => if c = 0 then nI t else le8 g0 g1 g2 rem (t + 1) (cc9 c p) (tk9 c g0 g1 g2 p)
theorem le_cong : ∀ rem t c (p q : Nat → Int32), pu_A p q c → le8 g0 g1 g2 rem t c p = le8 g0 g1 g2 rem t c q := by
  intro rem
  induction rem with
  | zero => intro t c p q _; rfl
  | succ rem ih =>
    intro t c p q h
    unfold le8
    by_cases h0 : c = 0
    · rw [if_pos h0, if_pos h0]
    · rw [if_neg h0, if_neg h0, ← (A_mo h).1]
      exact ih _ _ _ _ (A_tk h)
/-- ticks until a vehicle is through -/
def lt8 (g0 g1 g2 : Int32) : Nat → Nat → Nat → Nat → (Nat → Int32) → Int32
  | 0, _, _, _, _ => -1
  | rem + 1, t, j, c, p => if la9' p j ≤ 20 then lt8 g0 g1 g2 rem (t + 1) (if ps9 c (mv9 p c) then j - 1 else j) (cc9 c p) (tk9 c g0 g1 g2 p) else nI t
/-- a vehicle that isn't through doesn't pass -/
theorem th_inv {j : Nat} (hI : pu_I p c) (hj : j < c) (hla : la9' p j ≤ 20) : (if ps9 c (mv9 p c) then j - 1 else j) < cc9 c p ∧ (ps9 c (mv9 p c) → 1 ≤ j) := by
  obtain ⟨i0, i6, -, -, -, -, -, -, iV, -⟩ := hI
  have h1 : ps9 c (mv9 p c) → 1 ≤ j := by
    intro h
    by_cases h0 : j = 0
    · exfalso
      subst h0
      have l0 := pV_la i6 (by omega) iV hj
      have l1 := mv_la i6 (by omega) iV hj
      have m1 := (mv_two i6 (by omega) iV hj).1
      have h2 := h.2
      rw [i32_le, show (39 : Int32).toInt = 39 by decide] at h2
      rw [i32_le, i32_20] at hla
      omega
    · omega
  refine ⟨?_, h1⟩
  unfold cc9
  by_cases q : ps9 c (mv9 p c)
  · have := h1 q
    rw [if_pos q, if_pos q]
    omega
  · rw [if_neg q, if_neg q]
    exact hj
theorem lt_cong (hgg : ∃ gg, gg ≤ 20 ∧ g2 = nI gg) : ∀ rem t j c (p q : Nat → Int32), pu_A p q c → pu_I p c → j < c → lt8 g0 g1 g2 rem t j c p = lt8 g0 g1 g2 rem t j c q := by
  obtain ⟨gg, hg20, rfl⟩ := hgg
  intro rem
  induction rem with
  | zero => intro t j c p q _ _ _; rfl
  | succ rem ih =>
    intro t j c p q h hI hj
    unfold lt8
    rw [← A_la h hj]
    by_cases h0 : la9' p j ≤ 20
    · have hps := A_ps (A_mv h (Nat.le_refl c))
      have ej : (if ps9 c (mv9 q c) then j - 1 else j) = (if ps9 c (mv9 p c) then j - 1 else j) := by
        by_cases e : ps9 c (mv9 p c)
        · rw [if_pos e, if_pos (hps.mp e)]
        · rw [if_neg e, if_neg (fun w => e (hps.mpr w))]
      rw [if_pos h0, if_pos h0, ← (A_mo h).1, ej]
      exact ih _ _ _ _ _ (A_tk h) (pI_tick hg20 hI) (th_inv hI hj h0).1
    · rw [if_neg h0, if_neg h0]
theorem lt_le (j : Nat) : ∀ rem t c (p : Nat → Int32), t + rem ≤ 401 → lt8 g0 g1 g2 rem t j c p = -1 ∨ ∃ k, k ≤ 400 ∧ lt8 g0 g1 g2 rem t j c p = nI k := by
  intro rem
  induction rem generalizing j with
  | zero => intro t c p _; exact Or.inl rfl
  | succ rem ih =>
    intro t c p ht
    unfold lt8
    by_cases h0 : la9' p j ≤ 20
    · rw [if_pos h0]
      exact ih _ _ _ _ (by omega)
    · rw [if_neg h0]
      exact Or.inr ⟨t, by omega, rfl⟩
/-- ticks until the arm hits -/
def lh8 (g0 g1 g2 : Int32) : Nat → Nat → Nat → (Nat → Int32) → Int32
  | 0, _, _, _ => -1
  | rem + 1, t, c, p => if hp9 (cc9 c p) (t3 (cc9 c p) (ct9 (cc9 c p) g0 g1 g2 (mo9 c p))) then nI t else lh8 g0 g1 g2 rem (t + 1) (cc9 c p) (tk9 c g0 g1 g2 p)
theorem A_hp3 {q : Nat → Int32} (h : pu_A p q c) : hp9 (cc9 c p) (t3 (cc9 c p) (ct9 (cc9 c p) g0 g1 g2 (mo9 c p))) ↔ hp9 (cc9 c q) (t3 (cc9 c q) (ct9 (cc9 c q) g0 g1 g2 (mo9 c q))) := by
  obtain ⟨h1, h2⟩ := A_mo h
  rw [← h1]
  exact A_hp (A_t3 (A_ct h2))
theorem lh_cong : ∀ rem t c (p q : Nat → Int32), pu_A p q c → lh8 g0 g1 g2 rem t c p = lh8 g0 g1 g2 rem t c q := by
  intro rem
  induction rem with
  | zero => intro t c p q _; rfl
  | succ rem ih =>
    intro t c p q h
    have hh := A_hp3 (g0 := g0) (g1 := g1) (g2 := g2) h
    unfold lh8
    by_cases h0 : hp9 (cc9 c p) (t3 (cc9 c p) (ct9 (cc9 c p) g0 g1 g2 (mo9 c p)))
    · rw [if_pos h0, if_pos (hh.mp h0)]
    · rw [if_neg h0, if_neg (fun e => h0 (hh.mpr e)), ← (A_mo h).1]
      exact ih _ _ _ _ (A_tk h)
theorem t35 : t3 (cc9 c p) (ct9 (cc9 c p) g0 g1 g2 (mo9 c p)) 5 = p 5 := by
  rw [t3_o (by decide) (by decide), ct_far (by decide) (by decide) (fun _ => by omega), mo_sm (by decide) (by decide)]
theorem tk_5h : tk9 c g0 g1 g2 p 5 = if hp9 (cc9 c p) (t3 (cc9 c p) (ct9 (cc9 c p) g0 g1 g2 (mo9 c p))) then 1 else p 5 := by
  unfold tk9
  rw [th_o (by decide)]
  unfold hi9
  by_cases h0 : hp9 (cc9 c p) (t3 (cc9 c p) (ct9 (cc9 c p) g0 g1 g2 (mo9 c p)))
  · rw [if_pos h0, if_pos h0, pu_u_eq]
  · rw [if_neg h0, if_neg h0, t35]
theorem lh_broken : ∀ rem t c (p : Nat → Int32), ¬ p 5 = 0 → lh8 g0 g1 g2 rem t c p = -1 := by
  intro rem
  induction rem with
  | zero => intro t c p _; rfl
  | succ rem ih =>
    intro t c p h
    have hn : ¬ hp9 (cc9 c p) (t3 (cc9 c p) (ct9 (cc9 c p) g0 g1 g2 (mo9 c p))) := fun e => h (t35.symm.trans e.1)
    unfold lh8
    rw [if_neg hn]
    refine ih _ _ _ ?_
    rw [tk_5h, if_neg hn]
    exact h
/-! the class's runs -/
theorem i_400 {t : Nat} (ht : t ≤ 401) : ((400 : Int32) < nI t) ↔ t = 401 := by
  rw [i32_lt, nI_toInt (by omega), show (400 : Int32).toInt = 400 by decide]
  omega
theorem xl_empty (hz : HZ8 z a) (hl : l < 3) (hgg : ∃ gg, gg ≤ 20 ∧ g2 = nI gg) : ∀ rem t m M c, t + rem = 401 → rem < m → LC8 M (a + 23 + 3 + 6 * l) (a + 23 + 2) c g0 g1 g2 → ∃ M', fx9 (fun _ _ _ _ => none) (f_X2_emptyIn_b28 z) m a (a + 23 + 3 + 6 * l) (nI t) M = some (.inl (some (.int (le8 g0 g1 g2 rem t c (vc9 M (a + 23 + 3 + 6 * l))))), M') ∧ F8 M M' (a + 23) 21 := by
  have hL := (hz_C hz).2.2.2 l hl
  intro rem
  induction rem with
  | zero =>
    intro t m M c ht hm h
    obtain ⟨m, rfl⟩ : ∃ q, m = q + 1 := ⟨m - 1, by omega⟩
    refine ⟨M, ?_, f8_refl⟩
    rw [fx_k]
    unfold f_X2_emptyIn_b28
    rw [if_pos ((i_400 (by omega)).mpr (by omega))]
    rfl
  | succ rem ih =>
    intro t m M c ht hm h
    obtain ⟨m, rfl⟩ : ∃ q, m = q + 1 := ⟨m - 1, by omega⟩
    have e5 : M (a + 23 + 3 + 6 * l) 5 = nI c := h.1.1
    have h6 := h.1.2.1
    by_cases h0 : c = 0
    · refine ⟨M, ?_, f8_refl⟩
      rw [fx_k]
      unfold f_X2_emptyIn_b28 le8
      rw [if_neg (fun e => by have := (i_400 (by omega)).mp e; omega), gf_k hL.1, sb_k, e5, if_pos (show nI c = 0 by rw [h0]; rfl), if_pos h0]
      rfl
    · obtain ⟨M1, t1, f1, h1, e1, -, -⟩ := lc_tick hL (hz_C hz).2.2.1 (by omega) hgg h
      obtain ⟨M2, t2, f2⟩ := ih (t + 1) m M1 _ (by omega) (by omega) h1
      rw [e1] at t2
      refine ⟨M2, ?_, f8_trans (f8_in f1 (by omega) (by omega)) f2⟩
      rw [fx_k]
      unfold f_X2_emptyIn_b28 le8
      rw [if_neg (fun e => by have := (i_400 (by omega)).mp e; omega), gf_k hL.1, sb_k, e5, if_neg (nI_ne0 (by omega) (by omega)), if_neg h0, hz_rC hz, sb_k, rf_k (hz_C hz).1, sb_k, iv_k hL.1, t1, bv_k, nI_1]
      exact t2
theorem x1_gone {j : Nat} (hL : pu_L z b) (hI : pu_I (vc9 M b) c) (hj : j < c) : f_X1_hasGoneThrough z b (nI j) M = some (.inl (some (.int (if la9' (vc9 M b) j ≤ 20 then 0 else 1))), M) := by
  have h6 := hI.2.1
  have e := ev_X1_lastCell (M := M) (r := vc9 M b) (s := pu_t M b) (k := j) hL (by omega)
  rw [pw_self] at e
  have hi : la9' (vc9 M b) j < 21 ↔ la9' (vc9 M b) j ≤ 20 := by
    rw [i32_lt, i32_le, i32_20, show (21 : Int32).toInt = 21 by decide]
    omega
  unfold f_X1_hasGoneThrough
  rw [iv_k hL.1, x1_has1 hL hI.1 h6 hj, bi_k, if_neg (by decide), iv_k hL.1, e, bi_k]
  by_cases q : la9' (vc9 M b) j ≤ 20
  · rw [if_pos (hi.mpr q), if_pos q, rz_0]
  · rw [if_neg (fun w => q (hi.mp w)), if_neg q, rz_1]
theorem xl_through (hz : HZ8 z a) (hl : l < 3) (hgg : ∃ gg, gg ≤ 20 ∧ g2 = nI gg) {w : Int32} : ∀ rem t j m M c, t + rem = 401 → rem < m → LC8 M (a + 23 + 3 + 6 * l) (a + 23 + 2) c g0 g1 g2 → j < c → w - M (a + 23 + 3 + 6 * l) 12 = nI j → ∃ M', fx9 (fun _ _ _ _ _ => none) (f_X2_copyThroughIn_b21 z) m a (a + 23 + 3 + 6 * l) w (nI t) M = some (.inl (some (.int (lt8 g0 g1 g2 rem t j c (vc9 M (a + 23 + 3 + 6 * l))))), M') ∧ F8 M M' (a + 23) 21 := by
  have hL := (hz_C hz).2.2.2 l hl
  intro rem
  induction rem with
  | zero =>
    intro t j m M c ht hm h hj hw
    obtain ⟨m, rfl⟩ : ∃ q, m = q + 1 := ⟨m - 1, by omega⟩
    refine ⟨M, ?_, f8_refl⟩
    rw [fx_k]
    unfold f_X2_copyThroughIn_b21
    rw [if_pos ((i_400 (by omega)).mpr (by omega))]
    rfl
  | succ rem ih =>
    intro t j m M c ht hm h hj hw
    obtain ⟨m, rfl⟩ : ∃ q, m = q + 1 := ⟨m - 1, by omega⟩
    have hI := h.1
    have h6 := h.1.2.1
    by_cases h0 : la9' (vc9 M (a + 23 + 3 + 6 * l)) j ≤ 20
    · obtain ⟨v1, v2⟩ := th_inv hI hj h0
      obtain ⟨M1, t1, f1, h1, e1, ep, -⟩ := lc_tick hL (hz_C hz).2.2.1 (by omega) hgg h
      obtain ⟨M2, t2, f2⟩ := ih (t + 1) (if ps9 c (mv9 (vc9 M (a + 23 + 3 + 6 * l)) c) then j - 1 else j) m M1 _ (by omega) (by omega) h1 v1 (by
        rw [ep]
        by_cases q : ps9 c (mv9 (vc9 M (a + 23 + 3 + 6 * l)) c)
        · obtain ⟨j', rfl⟩ : ∃ j', j = j' + 1 := ⟨j - 1, by have := v2 q; omega⟩
          rw [if_pos q, if_pos q, ← Int32.sub_sub, hw, nI_pred, Nat.add_sub_cancel]
        · rw [if_neg q, if_neg q, hw])
      rw [e1] at t2
      refine ⟨M2, ?_, f8_trans (f8_in f1 (by omega) (by omega)) f2⟩
      rw [fx_k]
      unfold f_X2_copyThroughIn_b21 lt8
      rw [if_neg (fun e => by have := (i_400 (by omega)).mp e; omega), gf_k hL.1, sb_k, hw, iv_k hL.1, x1_gone hL hI hj, bi_k, if_pos h0, if_pos h0, if_pos rfl, hz_rC hz, sb_k, rf_k (hz_C hz).1, sb_k, iv_k hL.1, t1, bv_k, nI_1]
      exact t2
    · refine ⟨M, ?_, f8_refl⟩
      rw [fx_k]
      unfold f_X2_copyThroughIn_b21 lt8
      rw [if_neg (fun e => by have := (i_400 (by omega)).mp e; omega), gf_k hL.1, sb_k, hw, iv_k hL.1, x1_gone hL hI hj, bi_k, if_neg h0, if_neg h0, if_neg (by decide)]
      rfl
theorem xl_hits (hz : HZ8 z a) (hl : l < 3) (hgg : ∃ gg, gg ≤ 20 ∧ g2 = nI gg) {h0 : Nat} (hb0 : h0 < 1000000000) : ∀ rem t m M c, t + rem = 401 → rem < m → LC8 M (a + 23 + 3 + 6 * l) (a + 23 + 2) c g0 g1 g2 → M (a + 23 + 3 + 6 * l) 15 = nI h0 → ∃ M', fx9 (fun _ _ _ _ _ => none) (f_X2_hitsIn_b44 z) m a (a + 23 + 3 + 6 * l) (nI h0) (nI t) M = some (.inl (some (.int (lh8 g0 g1 g2 rem t c (vc9 M (a + 23 + 3 + 6 * l))))), M') ∧ F8 M M' (a + 23) 21 := by
  have hL := (hz_C hz).2.2.2 l hl
  intro rem
  induction rem with
  | zero =>
    intro t m M c ht hm h hh
    obtain ⟨m, rfl⟩ : ∃ q, m = q + 1 := ⟨m - 1, by omega⟩
    refine ⟨M, ?_, f8_refl⟩
    rw [fx_k]
    unfold f_X2_hitsIn_b44
    rw [if_pos ((i_400 (by omega)).mpr (by omega))]
    rfl
  | succ rem ih =>
    intro t m M c ht hm h hh
    obtain ⟨m, rfl⟩ : ∃ q, m = q + 1 := ⟨m - 1, by omega⟩
    obtain ⟨M1, t1, f1, h1, e1, -, ep⟩ := lc_tick hL (hz_C hz).2.2.1 (by omega) hgg h
    rw [hh] at ep
    by_cases q : hp9 (cc9 c (vc9 M (a + 23 + 3 + 6 * l))) (t3 (cc9 c (vc9 M (a + 23 + 3 + 6 * l))) (ct9 (cc9 c (vc9 M (a + 23 + 3 + 6 * l))) g0 g1 g2 (mo9 c (vc9 M (a + 23 + 3 + 6 * l)))))
    · rw [if_pos q, nI_1] at ep
      refine ⟨M1, ?_, f8_in f1 (by omega) (by omega)⟩
      rw [fx_k]
      unfold f_X2_hitsIn_b44 lh8
      rw [if_neg (fun e => by have := (i_400 (by omega)).mp e; omega), hz_rC hz, sb_k, rf_k (hz_C hz).1, sb_k, iv_k hL.1, t1, bv_k, gf_k hL.1, sb_k, ep, if_neg (nI_ge (by omega) (by omega)), if_pos q]
      rfl
    · rw [if_neg q] at ep
      obtain ⟨M2, t2, f2⟩ := ih (t + 1) m M1 _ (by omega) (by omega) h1 ep
      rw [e1] at t2
      refine ⟨M2, ?_, f8_trans (f8_in f1 (by omega) (by omega)) f2⟩
      rw [fx_k]
      unfold f_X2_hitsIn_b44 lh8
      rw [if_neg (fun e => by have := (i_400 (by omega)).mp e; omega), hz_rC hz, sb_k, rf_k (hz_C hz).1, sb_k, iv_k hL.1, t1, bv_k, gf_k hL.1, sb_k, ep, if_pos (nI_le (Nat.le_refl _) (by omega)), if_neg q, nI_1]
      exact t2
/-- a lane of a gate alone -/
theorem g8_lc (h : GR8 M g Q B) (hl : l < kn8 Q) : LC8 M (g + 3 + 6 * l) (g + 2) (kc8 Q l) (Q 7) (Q 8) (Q 9) ∧ ∃ gg, gg ≤ 20 ∧ Q 9 = nI gg := by
  obtain ⟨hI, hA, hB, hl3, hc0, -, -⟩ := g8_at h hl
  have hs := h.2.2.2.1
  exact ⟨⟨pI_A (fun j hj => (hA j hj).symm) hI, hB.1, hs 0 (by omega), hs 1 (by omega), hs 2 (by omega)⟩, h.2.1.2.2.1⟩
end RP
