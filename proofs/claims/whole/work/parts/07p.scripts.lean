section RW
variable {z : Sh9} {M M' M1 M2 M6 N N' : Mem9} {g x y x0 n c b sg B B' l a A gg w h d2 d3 d4 d5 S : Nat} {Q Q' Q0 R p r : Nat → Int32} {g0 g1 g2 len : Int32}
/-! runScript -/
theorem bl_k {v : Int64} {K : Int64 → Mem9 → Re9} : bl9 (some (.inl (some (.long v)), M)) K = K v M := rfl
theorem dl_n {u d e : Nat} {D : Int64} (hD : D = lN d) (h0 : 0 < d) (hu : u < 2 ^ 63) (hd : d < 2 ^ 63) (he : u / d = e) : dl9 (lN u) D = some (lN e) := by
  subst hD
  unfold dl9
  rw [if_neg (fun q => by have := (pk_lEQ (b := 0) hd (by omega)).mp q; omega), pk_lDiv hu h0 hd, he]
theorem rl_n {u d e : Nat} {D : Int64} (hD : D = lN d) (h0 : 0 < d) (hu : u < 2 ^ 63) (hd : d < 2 ^ 63) (he : u % d = e) : rl9 (lN u) D = some (lN e) := by
  subst hD
  unfold rl9
  rw [if_neg (fun q => by have := (pk_lEQ (b := 0) hd (by omega)).mp q; omega), pk_lRem hu h0 hd, he]
theorem cmp_0 {u v : Int64} : lg_cmp u v = 0 ↔ u = v := by
  unfold lg_cmp
  by_cases h : u > v
  · rw [if_pos h]
    refine ⟨fun e => absurd e (by decide), fun e => ?_⟩
    rw [e] at h
    have := Int64.lt_iff_toInt_lt.mp h
    omega
  · rw [if_neg h]
    by_cases e : u = v
    · rw [if_pos e]
      exact ⟨fun _ => e, fun _ => rfl⟩
    · rw [if_neg e]
      exact ⟨fun q => absurd q (by decide), fun q => absurd q e⟩
theorem x2_without {k : Nat} (hk : k ≤ 3) (hS : S < 2 ^ 63) : f_X2_withoutGroups z (lN S) (nI k) M = some (.inl (some (.long (lN (S / 100000 ^ k)))), M) := by
  have hl : ∀ rem i m S, i + rem = k → rem < m → S < 2 ^ 63 → fx9 (fun _ _ _ _ => none) (f_X2_withoutGroups_b5 z) m (nI k) (lN S) (nI i) M = some (.inl (some (.long (lN (S / 100000 ^ rem)))), M) := by
    intro rem
    induction rem with
    | zero =>
      intro i m S hi hm hS
      obtain ⟨m, rfl⟩ : ∃ q, m = q + 1 := ⟨m - 1, by omega⟩
      rw [fx_k]
      unfold f_X2_withoutGroups_b5
      rw [if_pos (nI_le (by omega) (by omega)), Nat.pow_zero, Nat.div_one]
      rfl
    | succ rem ih =>
      intro i m S hi hm hS
      obtain ⟨m, rfl⟩ : ∃ q, m = q + 1 := ⟨m - 1, by omega⟩
      have e := ih (i + 1) m (S / 100000) (by omega) (by omega) (Nat.lt_of_le_of_lt (Nat.div_le_self _ _) hS)
      rw [Nat.div_div_eq_div_mul, Nat.mul_comm 100000, ← Nat.pow_succ] at e
      rw [fx_k]
      unfold f_X2_withoutGroups_b5
      rw [if_neg (nI_ge (by omega) (by omega)), dl_n (D := 100000) (d := 100000) rfl (by omega) hS (by omega) rfl, sb_k, nI_1]
      exact e
  exact hl k 0 FU9 S (by omega) (by unfold FU9; omega) hS
theorem pow_5 {k : Nat} (hk : k ≤ 3) : 0 < 100000 ^ k ∧ 100000 ^ k < 2 ^ 62 := by
  rcases (show k = 0 ∨ k = 1 ∨ k = 2 ∨ k = 3 by omega) with rfl | rfl | rfl | rfl <;> decide
theorem jr_loop (hz : HZ8 z a) (hn : n ≤ 3) (hS : S < 2 ^ 63) : ∀ rem i Q, RI8 Q → i + rem = n → ∃ v : Int32, (∀ M m B, rem < m → GR8 M (a + 23) Q B → ∃ M', fx9 (fun _ _ _ _ _ => none) (f_X2_runScript_b60 z) m a (nI n) (lN S) (nI i) M = some (.inl (some (.int v)), M') ∧ F8 M M' (a + 23) 21) ∧ (∀ N m, rem < m → N (a + 386) = Q → ∃ N', fx9 (fun _ _ _ _ _ _ => none) (f_X3_runScript_b86 z) m (a + 383) (nI n) (lN S) (lN (100000 ^ rem)) (nI i) N = some (.inl (some (.int v)), N') ∧ N8 (a + 383) (a + 386) N N') := by
  intro rem
  induction rem with
  | zero =>
    intro i Q hQ hi
    refine ⟨-1, fun M m B hm h => ⟨M, ?_, f8_refl⟩, fun N m hm h => ⟨N, ?_, n8_refl⟩⟩
    · obtain ⟨m, rfl⟩ : ∃ q, m = q + 1 := ⟨m - 1, by omega⟩
      rw [fx_k]
      unfold f_X2_runScript_b60
      rw [if_pos (nI_le (by omega) (by omega))]
      rfl
    · obtain ⟨m, rfl⟩ : ∃ q, m = q + 1 := ⟨m - 1, by omega⟩
      rw [fx_k]
      unfold f_X3_runScript_b86
      rw [if_pos (nI_le (by omega) (by omega))]
      rfl
  | succ rem ih =>
    intro i Q hQ hi
    have hp := pow_5 (k := rem) (by omega)
    have hp1 := pow_5 (k := rem + 1) (by omega)
    have hSd : S / 100000 ^ rem < 2 ^ 63 := Nat.lt_of_le_of_lt (Nat.div_le_self _ _) hS
    obtain ⟨w, hw, hw2⟩ : ∃ w, w = S / 100000 ^ rem % 100000 ∧ w < 100000 := ⟨_, rfl, Nat.mod_lt _ (by omega)⟩
    obtain ⟨v0, Q1, hQ1, hv0, hx, hm0⟩ := jg_all hz hQ hw2
    obtain ⟨v, hc, hmd⟩ := ih (i + 1) Q1 hQ1 (by omega)
    have ex : ∀ (G : Nat → Int32 → Int64 → Int32 → Mem9 → Re9) M M1, f_X2_doGroup z a (nI w) M = some (.inl (some (.int v0)), M1) → f_X2_runScript_b60 z G a (nI n) (lN S) (nI i) M = if v0 = 0 then some (.inl (some (.int (nI i))), M1) else G a (nI n) (lN S) (nI i + 1) M1 := by
      intro G M M1 t
      have e1 : nI n - 1 - nI i = nI rem := by
        obtain ⟨n', rfl⟩ : ∃ n', n = n' + 1 := ⟨n - 1, by omega⟩
        rw [nI_pred, nI_sub (by omega)]
        exact congrArg nI (by omega)
      unfold f_X2_runScript_b60
      rw [if_neg (nI_ge (by omega) (by omega)), e1, x2_without (by omega) hS, bl_k, rl_n (D := 100000) (d := 100000) (e := w) rfl (by omega) hSd (by omega) hw.symm, sb_k, lN_i, iv_k hz.1.1, t, bi_k]
      rfl
    have em : ∀ (G : Nat → Int32 → Int64 → Int64 → Int32 → Mem9 → Re9) N N1, f_X3_command z (a + 383) (nI (w / 10000)) (nI (w % 10000)) N = some (.inl (some (.int v0)), N1) → f_X3_runScript_b86 z G (a + 383) (nI n) (lN S) (lN (100000 ^ (rem + 1))) (nI i) N = if v0 = 0 then some (.inl (some (.int (nI i))), N1) else G (a + 383) (nI n) (lN S) (lN (100000 ^ rem)) (nI i + 1) N1 := by
      intro G N N1 t
      have e1 : 100000 ^ (rem + 1) / 100000 = 100000 ^ rem := by
        rw [Nat.pow_succ, Nat.mul_div_cancel _ (by omega)]
      unfold f_X3_runScript_b86
      rw [if_neg (nI_ge (by omega) (by omega)), dl_n (D := 100000) (d := 100000) (e := 100000 ^ rem) rfl (by omega) (by omega) (by omega) e1, sb_k, dl_n (D := lN (100000 ^ rem)) (d := 100000 ^ rem) (e := S / 100000 ^ rem) rfl hp.1 hS (by omega) rfl, sb_k, rl_n (D := 100000) (d := 100000) (e := w) rfl (by omega) hSd (by omega) hw.symm, sb_k, nm_k, lN_i, dv_n (D := 10000) (d := 10000) (e := w / 10000) rfl (by omega) (by omega) (by omega) rfl, sb_k, rm_n (D := 10000) (d := 10000) (e := w % 10000) rfl (by omega) (by omega) (by omega) rfl, sb_k, iv_k (hz_x0 hz), t, bi_k]
      rfl
    by_cases e0 : v0 = 0
    · refine ⟨nI i, fun M m B hm h => ?_, fun N m hm h => ?_⟩
      · obtain ⟨m, rfl⟩ : ∃ q, m = q + 1 := ⟨m - 1, by omega⟩
        obtain ⟨M1, t, f, -⟩ := hx M B h
        refine ⟨M1, ?_, f⟩
        rw [fx_k, ex _ M M1 t, if_pos e0]
      · obtain ⟨m, rfl⟩ : ∃ q, m = q + 1 := ⟨m - 1, by omega⟩
        obtain ⟨N1, t, f, -⟩ := hm0 N h
        refine ⟨N1, ?_, f⟩
        rw [fx_k, em _ N N1 t, if_pos e0]
    · refine ⟨v, fun M m B hm h => ?_, fun N m hm h => ?_⟩
      · obtain ⟨m, rfl⟩ : ∃ q, m = q + 1 := ⟨m - 1, by omega⟩
        obtain ⟨M1, t, f, g1⟩ := hx M B h
        obtain ⟨M2, t2, f2⟩ := hc M1 m (B + 180) (by omega) g1
        refine ⟨M2, ?_, f8_trans f f2⟩
        rw [fx_k, ex _ M M1 t, if_neg e0, nI_1]
        exact t2
      · obtain ⟨m, rfl⟩ : ∃ q, m = q + 1 := ⟨m - 1, by omega⟩
        obtain ⟨N1, t, f, e1⟩ := hm0 N h
        obtain ⟨N2, t2, f2⟩ := hmd N1 m (by omega) e1
        refine ⟨N2, ?_, n8_trans f f2⟩
        rw [fx_k, em _ N N1 t, if_neg e0, nI_1]
        exact t2
theorem m_rsb {y : Int32} {s : Int64} : ∃ all, f_X3_runScript z x0 y s M = f_X3_runScript_b32 z x0 y s all M := by
  unfold f_X3_runScript
  rw [show FU9 = 5996 + 1 + 1 + 1 + 1 from rfl, fx_k]
  unfold f_X3_runScript_b6
  by_cases h0 : y ≤ 0
  · rw [if_pos h0]
    exact ⟨_, rfl⟩
  · rw [if_neg h0, if_neg (by decide), nm_k, fx_k]
    by_cases h1 : y ≤ 0 + 1
    · rw [if_pos h1]
      exact ⟨_, rfl⟩
    · rw [if_neg h1, if_neg (by decide), nm_k, fx_k]
      by_cases h2 : y ≤ 0 + 1 + 1
      · rw [if_pos h2]
        exact ⟨_, rfl⟩
      · rw [if_neg h2, if_neg (by decide), nm_k, fx_k]
        by_cases h3 : y ≤ 0 + 1 + 1 + 1
        · rw [if_pos h3]
          exact ⟨_, rfl⟩
        · rw [if_neg h3, if_pos (by decide)]
          exact ⟨_, rfl⟩
theorem m_rsn {s : Int64} (h1 : 1 ≤ n) (hn : n ≤ 3) : f_X3_runScript z x0 (nI n) s M = f_X3_runScript_b32 z x0 (nI n) s (lN (100000 ^ n)) M := by
  unfold f_X3_runScript
  rw [show FU9 = 5996 + 1 + 1 + 1 + 1 from rfl, fx_k]
  unfold f_X3_runScript_b6
  rcases (show n = 1 ∨ n = 2 ∨ n = 3 by omega) with rfl | rfl | rfl
  · rw [if_neg (by decide), if_neg (by decide), nm_k, fx_k, if_pos (by decide)]
    exact congrArg (fun u => f_X3_runScript_b32 z x0 (nI 1) s u M) (by decide)
  · rw [if_neg (by decide), if_neg (by decide), nm_k, fx_k, if_neg (by decide), if_neg (by decide), nm_k, fx_k, if_pos (by decide)]
    exact congrArg (fun u => f_X3_runScript_b32 z x0 (nI 2) s u M) (by decide)
  · rw [if_neg (by decide), if_neg (by decide), nm_k, fx_k, if_neg (by decide), if_neg (by decide), nm_k, fx_k, if_neg (by decide), if_neg (by decide), nm_k, fx_k, if_pos (by decide)]
    exact congrArg (fun u => f_X3_runScript_b32 z x0 (nI 3) s u M) (by decide)
theorem q_runScript {y : Int32} {s : Int64} (hz : HZ8 z a) (h : SR8 M a B) : AG8 a M B (fun M => f_L_runScript z a y s (a + 391) M) (fun M => f_X3_runScript z (a + 383) y s M) := by
  have hP := h.2.1
  have hR := hP.2.1
  have hmt : ∀ all, f_X3_runScript_b62 z (a + 383) y s all 1 (a + 383) M = some (.inl (some (.int 0)), wr9 M (a + 383) 0 1) := fun all => by
    unfold f_X3_runScript_b62
    rw [iv_k (hz_x0 hz), m_ref1 (hz_x0 hz) (by decide), bi_k, if_neg (by decide)]
    rfl
  have hthrow : f_X2_runScript z a y s M = some (.inr "java/lang/IllegalArgumentException", M) → f_X3_runScript z (a + 383) y s M = some (.inl (some (.int 0)), wr9 M (a + 383) 0 1) → AG8 a M B (fun M => f_L_runScript z a y s (a + 391) M) (fun M => f_X3_runScript z (a + 383) y s M) := by
    intro hx hm
    refine ag_throw (e := 1) (b := 0) h (by decide) ?_ hm
    show f_L_runScript z a y s (a + 391) M = _
    unfold f_L_runScript
    rw [iv_k hz.1.1, hx, bh_r, if_pos rfl]
    rfl
  by_cases hy : 1 ≤ y.toInt ∧ y.toInt ≤ 3
  · obtain ⟨n, hn, rfl⟩ := y_of (y := y) (n := 3) ⟨by omega, hy.2⟩ (by decide)
    have h1n : 1 ≤ n := by have := hy.1; rw [nI_toInt (by omega)] at this; omega
    have hp := pow_5 hn
    have c1 : ¬ nI n < 1 := nI_nlt (b := 1) h1n (by omega)
    have c2 : nI n ≤ 3 := nI_le (b := 3) hn (by decide)
    have e0 : (0 : Int64).toInt = 0 := by decide
    have eall : (lN (100000 ^ n) - 1).toInt = ((100000 ^ n - 1 : Nat) : Int) := by
      rw [show (1 : Int64) = lN 1 from rfl, lN_sub (by omega), pk_lT (by omega)]
    have hin : ∀ N : Mem9, f_X3_in z s 0 (lN (100000 ^ n) - 1) N = some (.inl (some (.int (if 0 ≤ s.toInt ∧ s.toInt ≤ ((100000 ^ n - 1 : Nat) : Int) then 1 else 0))), N) := fun N => by
      rw [em_in, e0, eall]
    by_cases hs0 : s < 0
    · have hs0' : s.toInt < 0 := by rw [Int64.lt_iff_toInt_lt, e0] at hs0; exact hs0
      refine hthrow ?_ ?_
      · unfold f_X2_runScript
        rw [if_neg c1, if_pos c2, if_pos ((cmp_lt s 0).mpr (by rw [e0]; exact hs0'))]
        rfl
      · rw [m_rsn h1n hn]
        unfold f_X3_runScript_b32
        rw [m_in (a := 0) (b := 0) (a' := 1) (b' := 3) (by decide) (by decide), if_pos hy, bi_k, if_neg (by decide), hin, bi_k, if_neg (show ¬ (0 ≤ s.toInt ∧ s.toInt ≤ ((100000 ^ n - 1 : Nat) : Int)) by omega), if_pos rfl]
        exact hmt _
    · obtain ⟨S, hS, rfl⟩ := pk_lOf hs0
      have eS := pk_lT hS
      have c3 : ¬ lg_cmp (lN S) 0 < 0 := fun q => by have := (cmp_lt _ _).mp q; rw [e0, eS] at this; omega
      have hd0 : S / 100000 ^ n < 2 ^ 63 := Nat.lt_of_le_of_lt (Nat.div_le_self _ _) hS
      have hz0 : (lN (S / 100000 ^ n) = 0) ↔ S < 100000 ^ n := by
        rw [show (0 : Int64) = lN 0 from rfl, pk_lEQ hd0 (by omega)]
        exact ⟨fun q => by
          have := Nat.div_add_mod S (100000 ^ n)
          rw [q, Nat.mul_zero] at this
          have := Nat.mod_lt S hp.1
          omega, fun q => Nat.div_eq_of_lt q⟩
      by_cases hb : S < 100000 ^ n
      · obtain ⟨hRt, hnt, hct⟩ := qt_R hR
        obtain ⟨M1, t1, f1, g1⟩ := x0_try hz hP
        obtain ⟨v, hc, hmd⟩ := jr_loop (z := z) (a := a) (n := n) (S := S) hz hn hS n 0 (qt8 M a) hRt (by omega)
        obtain ⟨M2, t2, f2⟩ := hc M1 FU9 B (by unfold FU9; omega) g1
        have f12 := f8_trans f1 f2
        refine ag_look (v := v) (M1 := M2) h ?_ f12 ?_
        · have hx : f_X2_runScript z a (nI n) (lN S) M = some (.inl (some (.int v)), M2) := by
            unfold f_X2_runScript
            rw [if_neg c1, if_pos c2, if_neg c3, x2_without hn hS, bl_k, if_pos (cmp_0.mpr (hz0.mpr hb)), hz_rC hz, sb_k, hz_rP hz, sb_k, iv_k (hz_C hz).1, t1, bv_k]
            exact t2
          show f_L_runScript z a (nI n) (lN S) (a + 391) M = _
          unfold f_L_runScript
          rw [iv_k hz.1.1, hx, bh_k]
          exact sl_out hz
        · have et := m_trial (v := v) hz f12
          generalize hN0 : wr9 (wr9 M2 (a + 391) 0 v) (a + 383) 0 0 = N0 at et
          obtain ⟨N', t3, n3⟩ := hmd (pu_R N0 (a + 386) (qt8 M a)) FU9 (by unfold FU9; omega) row_R
          refine ⟨N', ?_, n8_trans n8_R n3⟩
          show f_X3_runScript z (a + 383) (nI n) (lN S) _ = _
          rw [m_rsn h1n hn]
          unfold f_X3_runScript_b32
          rw [m_in (a := 0) (b := 0) (a' := 1) (b' := 3) (by decide) (by decide), if_pos hy, bi_k, if_neg (by decide), hin, bi_k, if_pos (show 0 ≤ (lN S).toInt ∧ (lN S).toInt ≤ ((100000 ^ n - 1 : Nat) : Int) by rw [eS]; omega), if_neg (by decide)]
          unfold f_X3_runScript_b62
          rw [iv_k (hz_x0 hz), m_ref0 (hz_x0 hz), bi_k, if_pos rfl, hN0, hz_r2 hz, sb_k, hz_r3 hz, sb_k, et, bv_k]
          exact t3
      · refine hthrow ?_ ?_
        · unfold f_X2_runScript
          rw [if_neg c1, if_pos c2, if_neg c3, x2_without hn hS, bl_k, if_neg (fun q => hb (hz0.mp (cmp_0.mp q)))]
          rfl
        · rw [m_rsn h1n hn]
          unfold f_X3_runScript_b32
          rw [m_in (a := 0) (b := 0) (a' := 1) (b' := 3) (by decide) (by decide), if_pos hy, bi_k, if_neg (by decide), hin, bi_k, if_neg (show ¬ (0 ≤ (lN S).toInt ∧ (lN S).toInt ≤ ((100000 ^ n - 1 : Nat) : Int)) by rw [eS]; omega), if_pos rfl]
          exact hmt _
  · refine hthrow ?_ ?_
    · unfold f_X2_runScript
      by_cases h1 : y < 1
      · rw [if_pos h1]
        rfl
      · rw [if_neg h1, if_neg (by rw [i32_lt, i32_1] at h1; rw [i32_le, i32_3]; omega)]
        rfl
    · obtain ⟨all, e⟩ := m_rsb (z := z) (x0 := a + 383) (M := M) (y := y) (s := s)
      rw [e]
      unfold f_X3_runScript_b32
      rw [m_in (a := 0) (b := 0) (a' := 1) (b' := 3) (by decide) (by decide), if_neg hy, bi_k, if_pos rfl]
      exact hmt _
end RW
