section RL
variable {z : Sh9} {M M' M1 M2 N : Mem9} {g x y x0 n c B B' l a A : Nat} {Q : Nat → Int32}
theorem s_ei : ¬ ("java/lang/IllegalArgumentException" : String) = "java/lang/IndexOutOfBoundsException" := by decide +kernel
theorem s_si : ¬ ("java/lang/IllegalStateException" : String) = "java/lang/IndexOutOfBoundsException" := by decide +kernel
theorem s_se : ¬ ("java/lang/IllegalStateException" : String) = "java/lang/IllegalArgumentException" := by decide +kernel
theorem i_lo {y : Int32} (h : y < 0) : y.toInt < 0 := by rw [i32_lt, i32_0] at h; exact h
theorem y_of {y : Int32} {n : Nat} (h : 0 ≤ y.toInt ∧ y.toInt ≤ (n : Int)) (hn : n < 2 ^ 31) : ∃ w, w ≤ n ∧ y = nI w := i32_ex hn h.1 h.2
theorem w0_r (hne : x ≠ a + 383) {v : Int32} : wr9 M (a + 383) 0 v x = M x := wr9_ne hne
/-! about -/
def aw8 (Q : Nat → Int32) (w : Nat) : Int32 := if w < 2 then Q w else ab8 Q w
theorem mq_about {w : Nat} (hz : HZ8 z a) (hQ : N (a + 385) = Q) (hR : RI8 Q) (hw : w < 10) : f_X3_about z (a + 383) (nI w) N = some (.inl (some (.int (aw8 Q w))), wr9 N (a + 383) 0 0) := by
  have hin : f_X3_in z (Int32.toInt64 (nI w)) 0 9 N = some (.inl (some (.int 1)), N) := by
    rw [m_in (a := 0) (b := 0) (a' := 0) (b' := 9) (by decide) (by decide), if_pos (by rw [nI_toInt (by omega)]; omega)]
  have hQ1 : wr9 N (a + 383) 0 0 (a + 385) = Q := (w0_r (by omega)).trans hQ
  have hs : ∀ j, j < 37 → f_X3_sum z (a + 385) (nI j) (wr9 N (a + 383) 0 0) = some (.inl (some (.int (rs8 Q j))), wr9 N (a + 383) 0 0) := fun j hj => by
    have e := m_sum (M := wr9 N (a + 383) 0 0) (x := a + 385) (w := j) (hz_now hz) (by rw [hQ1]; exact hR) hj
    rw [hQ1] at e
    exact e
  have hl : ∀ j, j < 121 → ld9 z (wr9 N (a + 383) 0 0) 10 (a + 385) (nI j) = some (Q j) := fun j hj => by
    rw [ld_k (hz_now hz) hj (by decide), hQ1]
  unfold f_X3_about
  rw [hin, bi_k, if_neg (by decide)]
  unfold f_X3_about_b18
  rw [iv_k (hz_x0 hz), m_ref0 (hz_x0 hz), bi_k, if_pos rfl]
  unfold aw8 ab8
  rcases (show w = 0 ∨ w = 1 ∨ w = 2 ∨ w = 3 ∨ w = 4 ∨ w = 5 ∨ w = 6 ∨ w = 7 ∨ w = 8 ∨ w = 9 by omega) with rfl | rfl | rfl | rfl | rfl | rfl | rfl | rfl | rfl | rfl
  · rw [if_pos (by decide)]
    unfold f_X3_about_b80
    rw [hz_r2 hz, sb_k, hl _ (by decide), sb_k]
    rfl
  · rw [if_neg (by decide), if_pos (by decide)]
    unfold f_X3_about_b80
    rw [hz_r2 hz, sb_k, hl _ (by decide), sb_k]
    rfl
  · have e : f_X3_sum z (a + 385) 0 (wr9 N (a + 383) 0 0) = some (.inl (some (.int (rs8 Q 0))), wr9 N (a + 383) 0 0) := hs 0 (by decide)
    rw [if_neg (by decide), if_neg (by decide), if_pos (by decide), hz_r2 hz, sb_k, e, bi_k]
    rfl
  · rw [if_neg (by decide), if_neg (by decide), if_neg (by decide), if_neg (by decide), if_neg (by decide), if_neg (by decide)]
    unfold f_X3_about_b122
    rw [hz_r2 hz, sb_k, show nI 3 - 1 = nI 2 from by decide, hl 2 (by decide), sb_k]
    rfl
  · rw [if_neg (by decide), if_neg (by decide), if_neg (by decide), if_neg (by decide), if_neg (by decide), if_neg (by decide)]
    unfold f_X3_about_b122
    rw [hz_r2 hz, sb_k, show nI 4 - 1 = nI 3 from by decide, hl 3 (by decide), sb_k]
    rfl
  · rw [if_neg (by decide), if_neg (by decide), if_neg (by decide), if_neg (by decide), if_neg (by decide), if_neg (by decide)]
    unfold f_X3_about_b122
    rw [hz_r2 hz, sb_k, show nI 5 - 1 = nI 4 from by decide, hl 4 (by decide), sb_k]
    rfl
  · rw [if_neg (by decide), if_neg (by decide), if_neg (by decide), if_neg (by decide), if_neg (by decide), if_neg (by decide)]
    unfold f_X3_about_b122
    rw [hz_r2 hz, sb_k, show nI 6 - 1 = nI 5 from by decide, hl 5 (by decide), sb_k]
    rfl
  · have e : f_X3_sum z (a + 385) 5 (wr9 N (a + 383) 0 0) = some (.inl (some (.int (rs8 Q 5))), wr9 N (a + 383) 0 0) := hs 5 (by decide)
    rw [if_neg (by decide), if_neg (by decide), if_neg (by decide), if_pos (by decide), hz_r2 hz, sb_k, e, bi_k]
    rfl
  · have e : f_X3_sum z (a + 385) 4 (wr9 N (a + 383) 0 0) = some (.inl (some (.int (rs8 Q 4))), wr9 N (a + 383) 0 0) := hs 4 (by decide)
    rw [if_neg (by decide), if_neg (by decide), if_neg (by decide), if_neg (by decide), if_pos (by decide), hz_r2 hz, sb_k, e, bi_k]
    rfl
  · rw [if_neg (by decide), if_neg (by decide), if_neg (by decide), if_neg (by decide), if_neg (by decide), if_pos (by decide), hz_r2 hz, sb_k, show (6 : Int32) = nI 6 from rfl, hl 6 (by decide), sb_k]
    rfl
theorem q_about {y : Int32} (hz : HZ8 z a) (h : SR8 M a B) : AG8 a M B (fun M => f_L_about z a y (a + 391) M) (fun M => f_X3_about z (a + 383) y M) := by
  have hP := h.2.1
  have hR := hP.2.1
  by_cases hy : 0 ≤ y.toInt ∧ y.toInt ≤ 9
  · obtain ⟨w, hw, rfl⟩ := y_of (n := 9) hy (by decide)
    have hx : f_X2_about z a (nI w) M = some (.inl (some (.int (aw8 (M (a + 385)) w))), M) := by
      unfold f_X2_about
      rw [if_neg (nI_pos (by omega)), if_pos (show nI w ≤ 9 from nI_le (b := 9) hw (by decide))]
      unfold aw8
      by_cases h0 : w = 0
      · subst h0
        rw [if_pos (by decide), hz_rP hz, sb_k, gf_k (hz_P hz).1, sb_k, hP.2.2.1]
        rfl
      · rw [if_neg (nI_ne0 (by omega) (by omega))]
        by_cases h1 : w = 1
        · subst h1
          rw [if_pos (by decide), hz_rP hz, sb_k, gf_k (hz_P hz).1, sb_k, hP.1]
          rfl
        · rw [if_neg (show ¬ nI w = 1 from fun e => h1 ((nI_eq (b := 1) (by omega) (by omega)).mp e)), hz_rP hz, sb_k, iv_k (hz_P hz).1, x0_tot (hz_P hz) hP (by omega) hw, bi_k, if_neg (by omega)]
          rfl
    refine ag_query (v := aw8 (M (a + 385)) w) h ?_ (mq_about hz (wr9_ne (by omega)) hR (by omega))
    show f_L_about z a (nI w) (a + 391) M = _
    unfold f_L_about
    rw [iv_k hz.1.1, hx, bh_k]
    exact sl_out hz
  · have hx : f_X2_about z a y M = some (.inr "java/lang/IllegalArgumentException", M) := by
      unfold f_X2_about
      by_cases h1 : y < 0
      · rw [if_pos h1]
        rfl
      · rw [if_neg h1, if_neg (by rw [i32_lt, i32_0] at h1; rw [i32_le, show (9 : Int32).toInt = 9 by decide]; omega)]
        rfl
    refine ag_throw (e := 1) (b := 0) h (by decide) ?_ ?_
    · show f_L_about z a y (a + 391) M = _
      unfold f_L_about
      rw [iv_k hz.1.1, hx, bh_r, if_pos rfl]
      rfl
    · show f_X3_about z (a + 383) y M = _
      unfold f_X3_about
      rw [m_in (a := 0) (b := 0) (a' := 0) (b' := 9) (by decide) (by decide), if_neg hy, bi_k, if_pos rfl]
      unfold f_X3_about_b18
      rw [iv_k (hz_x0 hz), m_ref1 (hz_x0 hz) (by decide), bi_k, if_neg (by decide)]
      rfl
/-! laneOf -/
theorem mq_laneOf {w : Nat} (hz : HZ8 z a) (hQ : N (a + 385) = Q) (hR : RI8 Q) (hl : l < kn8 Q) (hw : w < 8) : f_X3_laneOf z (a + 383) (nI l) (nI w) N = some (.inl (some (.int (nu8 Q l w))), wr9 N (a + 383) 0 0) := by
  have hn := hR.2.1
  have hin : f_X3_in z (Int32.toInt64 (nI w)) 0 7 N = some (.inl (some (.int 1)), N) := by
    rw [m_in (a := 0) (b := 0) (a' := 0) (b' := 7) (by decide) (by decide), if_pos (by rw [nI_toInt (by omega)]; omega)]
  have hQ1 : wr9 N (a + 383) 0 0 (a + 385) = Q := (w0_r (by omega)).trans hQ
  have hI := hR.2.2.2 l hl
  have h6 := hI.2.1
  have hof : ∀ j, j < 37 → f_X3_of z (a + 385) (nI l) (nI j) (wr9 N (a + 383) 0 0) = some (.inl (some (.int (pu_s Q l j))), wr9 N (a + 383) 0 0) := fun j hj => by
    have e := m_of (M := wr9 N (a + 383) 0 0) (x := a + 385) (l := l) (j := j) (hz_now hz) (by omega) hj
    rw [hQ1] at e
    exact e
  have ht4 : ∀ k, k < 6 → f_X3_told z (a + 385) (nI l) (nI k) 4 (wr9 N (a + 383) 0 0) = some (.inl (some (.int (le9' (pu_s Q l) k))), wr9 N (a + 383) 0 0) := fun k hk => by
    have e := m_told (M := wr9 N (a + 383) 0 0) (x := a + 385) (l := l) (k := k) (j := 4) (hz_now hz) (by omega) hk (by decide)
    rw [hQ1] at e
    exact e
  have ht1 : ∀ k, k < 6 → f_X3_told z (a + 385) (nI l) (nI k) 1 (wr9 N (a + 383) 0 0) = some (.inl (some (.int (fr9 (pu_s Q l) k))), wr9 N (a + 383) 0 0) := fun k hk => by
    have e := m_told (M := wr9 N (a + 383) 0 0) (x := a + 385) (l := l) (k := k) (j := 1) (hz_now hz) (by omega) hk (by decide)
    rw [hQ1] at e
    exact e
  have hof0 : f_X3_of z (a + 385) (nI l) 0 (wr9 N (a + 383) 0 0) = some (.inl (some (.int (nI (kc8 Q l)))), wr9 N (a + 383) 0 0) := by
    have e := hof 0 (by decide)
    rw [hI.1] at e
    exact e
  have hloop : ∀ rem k m, k + rem = kc8 Q l → rem < m → fx9 (fun _ _ _ _ _ _ => none) (f_X3_laneOf_b46 z) m (a + 383) (nI l) (nI w) (cu8 (pu_s Q l) k) (nI k) (wr9 N (a + 383) 0 0) = some (.inl (some (.int (nu8 Q l w))), wr9 N (a + 383) 0 0) := by
    intro rem
    induction rem with
    | zero =>
      intro k m hk hm
      obtain ⟨m, rfl⟩ : ∃ q, m = q + 1 := ⟨m - 1, by omega⟩
      rw [fx_k]
      unfold f_X3_laneOf_b46 nu8
      rw [hz_r2 hz, sb_k, hof0, bi_k, if_pos (nI_le (by omega) (by omega))]
      by_cases h7 : w < 7
      · rw [if_pos h7, if_neg (show ¬ (7 : Int32) ≤ nI w from nI_ge (b := 7) h7 (by decide)), sb_k, hof w (by omega), bi_k]
        rfl
      · rw [if_neg h7, if_pos (show (7 : Int32) ≤ nI w from nI_le (a := 7) (by omega) (by omega)), show k = kc8 Q l by omega]
        rfl
    | succ rem ih =>
      intro k m hk hm
      obtain ⟨m, rfl⟩ : ∃ q, m = q + 1 := ⟨m - 1, by omega⟩
      have hk6 : k < 6 := by omega
      have hnext := ih (k + 1) m (by omega) (by omega)
      have es : cu8 (pu_s Q l) (k + 1) = cu8 (pu_s Q l) k + (if le9' (pu_s Q l) k = 0 ∧ ¬ 19 < fr9 (pu_s Q l) k then 1 else 0) := rfl
      rw [es] at hnext
      rw [fx_k]
      show f_X3_laneOf_b46 z (fx9 (fun _ _ _ _ _ _ => none) (f_X3_laneOf_b46 z) m) (a + 383) (nI l) (nI w) (cu8 (pu_s Q l) k) (nI k) _ = _
      generalize hg : fx9 (fun _ _ _ _ _ _ => none) (f_X3_laneOf_b46 z) m = G at hnext ⊢
      unfold f_X3_laneOf_b46
      rw [hz_r2 hz, sb_k, hof0, bi_k, if_neg (nI_ge (by omega) (by omega)), sb_k, ht4 k hk6, bi_k]
      have e95 : ∀ v : Int32, f_X3_laneOf_b95 z G (a + 383) (nI l) (nI w) (nI k) v (wr9 N (a + 383) 0 0) = G (a + 383) (nI l) (nI w) (v + 0) (nI k + 1) (wr9 N (a + 383) 0 0) := fun v => rfl
      have e96 : ∀ v : Int32, f_X3_laneOf_b96 z G (a + 383) (nI l) (nI w) (nI k) 1 v (wr9 N (a + 383) 0 0) = G (a + 383) (nI l) (nI w) (v + 1) (nI k + 1) (wr9 N (a + 383) 0 0) := fun v => rfl
      by_cases q : le9' (pu_s Q l) k = 0
      · rw [if_pos q, sb_k, ht1 k hk6, bi_k]
        have hi : (20 : Int32) ≤ fr9 (pu_s Q l) k ↔ 19 < fr9 (pu_s Q l) k := by
          rw [i32_le, i32_lt, i32_20, show (19 : Int32).toInt = 19 by decide]
          omega
        by_cases q2 : 19 < fr9 (pu_s Q l) k
        · rw [if_neg (fun e => e.2 q2)] at hnext
          rw [if_pos (hi.mpr q2), e95, nI_1]
          exact hnext
        · rw [if_pos ⟨q, q2⟩] at hnext
          rw [if_neg (fun e => q2 (hi.mp e)), e96, nI_1]
          exact hnext
      · rw [if_neg (fun e => q e.1)] at hnext
        rw [if_neg q, e95, nI_1]
        exact hnext
  have h := hloop (kc8 Q l) 0 FU9 (by omega) (by unfold FU9; omega)
  unfold f_X3_laneOf
  rw [hz_r2 hz, sb_k, m_lane1 (hz_now hz) (by rw [hQ]; exact hR) (by rw [hQ]; exact hl), bi_k, if_neg (by decide), hin, bi_k, if_neg (by decide)]
  unfold f_X3_laneOf_b33
  rw [iv_k (hz_x0 hz), m_ref0 (hz_x0 hz), bi_k, if_pos rfl]
  exact h
theorem q_laneOf {y w : Int32} (hz : HZ8 z a) (h : SR8 M a B) : AG8 a M B (fun M => f_L_laneOf z a y w (a + 391) M) (fun M => f_X3_laneOf z (a + 383) y w M) := by
  have hP := h.2.1
  have hR := hP.2.1
  by_cases hy : 0 ≤ y.toInt ∧ y.toInt < (kn8 (M (a + 385)) : Int)
  · obtain ⟨l, hl, rfl⟩ := y_nat hy
    have hl3 := (g8_at hP hl).2.2.2.1
    by_cases hw : 0 ≤ w.toInt ∧ w.toInt ≤ 7
    · obtain ⟨w, hw7, rfl⟩ := y_of (n := 7) hw (by decide)
      have hx : f_X2_laneOf z a (nI l) (nI w) M = some (.inl (some (.int (nu8 (M (a + 385)) l w))), M) := by
        unfold f_X2_laneOf
        rw [iv_k hz.1.1, x2_checkLane hz hP hy, bv_k, if_neg (nI_pos (by omega)), if_pos (show nI w ≤ 7 from nI_le (b := 7) hw7 (by decide)), hz_rP hz, sb_k, hz_rg (hz_P hz), sb_k, g8_la (hz_P hz) hl3, sb_k, iv_k ((hz_P hz).2.2.2 l hl3).1, x1_number (hz_P hz) hP hl (by omega), bi_k]
        rfl
      refine ag_query (v := nu8 (M (a + 385)) l w) h ?_ (mq_laneOf hz (wr9_ne (by omega)) hR hl (by omega))
      show f_L_laneOf z a (nI l) (nI w) (a + 391) M = _
      unfold f_L_laneOf
      rw [iv_k hz.1.1, hx, bh_k]
      exact sl_out hz
    · have hx : f_X2_laneOf z a (nI l) w M = some (.inr "java/lang/IllegalArgumentException", M) := by
        unfold f_X2_laneOf
        rw [iv_k hz.1.1, x2_checkLane hz hP hy, bv_k]
        by_cases h1 : w < 0
        · rw [if_pos h1]
          rfl
        · rw [if_neg h1, if_neg (by rw [i32_lt, i32_0] at h1; rw [i32_le, show (7 : Int32).toInt = 7 by decide]; omega)]
          rfl
      refine ag_throw (e := 2) (b := 0) h (by decide) ?_ ?_
      · show f_L_laneOf z a (nI l) w (a + 391) M = _
        unfold f_L_laneOf
        rw [iv_k hz.1.1, hx, bh_r, if_neg s_ei, if_pos rfl]
        rfl
      · show f_X3_laneOf z (a + 383) (nI l) w M = _
        unfold f_X3_laneOf
        rw [hz_r2 hz, sb_k, m_lane1 (hz_now hz) hR hl, bi_k, if_neg (by decide), m_in (a := 0) (b := 0) (a' := 0) (b' := 7) (by decide) (by decide), if_neg hw, bi_k, if_pos rfl]
        unfold f_X3_laneOf_b33
        rw [iv_k (hz_x0 hz), m_ref1 (hz_x0 hz) (by decide), bi_k, if_neg (by decide)]
        rfl
  · have hx : f_X2_laneOf z a y w M = some (.inr "java/lang/IndexOutOfBoundsException", M) := by
      unfold f_X2_laneOf
      rw [iv_k hz.1.1, x2_noLane hz hP hy, bv_r]
    refine ag_throw (e := 1) (b := 0) h (by decide) ?_ ?_
    · show f_L_laneOf z a y w (a + 391) M = _
      unfold f_L_laneOf
      rw [iv_k hz.1.1, hx, bh_r, if_pos rfl]
      rfl
    · show f_X3_laneOf z (a + 383) y w M = _
      unfold f_X3_laneOf
      rw [hz_r2 hz, sb_k, m_lane0 (hz_now hz) hR hy, bi_k, if_pos rfl]
      unfold f_X3_laneOf_b33
      rw [iv_k (hz_x0 hz), m_ref1 (hz_x0 hz) (by decide), bi_k, if_neg (by decide)]
      rfl
/-! vehicle -/
theorem q_vehicle {y k w : Int32} (hz : HZ8 z a) (h : SR8 M a B) : AG8 a M B (fun M => f_L_vehicle z a y k w (a + 391) M) (fun M => f_X3_vehicle z (a + 383) y k w M) := by
  have hP := h.2.1
  have hR := hP.2.1
  have hthrow : f_X2_checkVehicle z a y k M = some (.inr "java/lang/IndexOutOfBoundsException", M) → f_X3_isVehicle z (a + 385) y k M = some (.inl (some (.int 0)), M) → AG8 a M B (fun M => f_L_vehicle z a y k w (a + 391) M) (fun M => f_X3_vehicle z (a + 383) y k w M) := by
    intro hx hm
    refine ag_throw (e := 1) (b := 0) h (by decide) ?_ ?_
    · show f_L_vehicle z a y k w (a + 391) M = _
      unfold f_L_vehicle f_X2_vehicle
      rw [iv_k hz.1.1, iv_k hz.1.1, hx, bv_r, bh_r, if_pos rfl]
      rfl
    · show f_X3_vehicle z (a + 383) y k w M = _
      unfold f_X3_vehicle
      rw [hz_r2 hz, sb_k, hm, bi_k, if_pos rfl]
      unfold f_X3_vehicle_b34
      rw [iv_k (hz_x0 hz), m_ref1 (hz_x0 hz) (by decide), bi_k, if_neg (by decide)]
      rfl
  by_cases hy : 0 ≤ y.toInt ∧ y.toInt < (kn8 (M (a + 385)) : Int)
  · obtain ⟨l, hl, rfl⟩ := y_nat hy
    have hl3 := (g8_at hP hl).2.2.2.1
    have h6 := (g8_at hP hl).1.2.1
    by_cases hk : 0 ≤ k.toInt ∧ k.toInt < (kc8 (M (a + 385)) l : Int)
    · obtain ⟨k, hkc, rfl⟩ := y_nat hk
      have hm : f_X3_isVehicle z (a + 385) (nI l) (nI k) M = some (.inl (some (.int 1)), M) := by
        rw [m_isVehicle (hz_now hz) hR hl rfl, if_pos hk]
      by_cases hw : 0 ≤ w.toInt ∧ w.toInt ≤ 4
      · obtain ⟨w, hw4, rfl⟩ := y_of (n := 4) hw (by decide)
        have hx : f_X2_vehicle z a (nI l) (nI k) (nI w) M = some (.inl (some (.int (pu_s (M (a + 385)) l (7 + 5 * k + w)))), M) := by
          unfold f_X2_vehicle
          rw [iv_k hz.1.1, x2_checkVeh hz hP hl rfl hk, bv_k, if_neg (nI_pos (by omega)), if_pos (show nI w ≤ 4 from nI_le (b := 4) hw4 (by decide)), hz_rP hz, sb_k, hz_rg (hz_P hz), sb_k, g8_la (hz_P hz) hl3, sb_k, iv_k ((hz_P hz).2.2.2 l hl3).1, x1_vehicle (hz_P hz) hP hl hkc (by omega), bi_k]
          rfl
        refine ag_query (v := pu_s (M (a + 385)) l (7 + 5 * k + w)) h ?_ ?_
        · show f_L_vehicle z a (nI l) (nI k) (nI w) (a + 391) M = _
          unfold f_L_vehicle
          rw [iv_k hz.1.1, hx, bh_k]
          exact sl_out hz
        · show f_X3_vehicle z (a + 383) (nI l) (nI k) (nI w) _ = _
          generalize hN : wr9 M (a + 391) 0 (pu_s (M (a + 385)) l (7 + 5 * k + w)) = N
          have hQ : N (a + 385) = M (a + 385) := by rw [← hN]; exact wr9_ne (by omega)
          have e1 : f_X3_isVehicle z (a + 385) (nI l) (nI k) N = some (.inl (some (.int 1)), N) := by
            rw [m_isVehicle (hz_now hz) (by rw [hQ]; exact hR) (by rw [hQ]; exact hl) rfl, hQ, if_pos hk]
          have e2 := m_told (M := wr9 N (a + 383) 0 0) (x := a + 385) (l := l) (k := k) (j := w) (hz_now hz) hl3 (by omega) (by omega)
          rw [w0_r (by omega), hQ] at e2
          unfold f_X3_vehicle
          rw [hz_r2 hz, sb_k, e1, bi_k, if_neg (by decide), m_in (a := 0) (b := 0) (a' := 0) (b' := 4) (by decide) (by decide), if_pos hw, bi_k, if_neg (by decide)]
          unfold f_X3_vehicle_b34
          rw [iv_k (hz_x0 hz), m_ref0 (hz_x0 hz), bi_k, if_pos rfl, hz_r2 hz, sb_k, e2, bi_k]
          rfl
      · have hx : f_X2_vehicle z a (nI l) (nI k) w M = some (.inr "java/lang/IllegalArgumentException", M) := by
          unfold f_X2_vehicle
          rw [iv_k hz.1.1, x2_checkVeh hz hP hl rfl hk, bv_k]
          by_cases h1 : w < 0
          · rw [if_pos h1]
            rfl
          · rw [if_neg h1, if_neg (by rw [i32_lt, i32_0] at h1; rw [i32_le, show (4 : Int32).toInt = 4 by decide]; omega)]
            rfl
        refine ag_throw (e := 2) (b := 0) h (by decide) ?_ ?_
        · show f_L_vehicle z a (nI l) (nI k) w (a + 391) M = _
          unfold f_L_vehicle
          rw [iv_k hz.1.1, hx, bh_r, if_neg s_ei, if_pos rfl]
          rfl
        · show f_X3_vehicle z (a + 383) (nI l) (nI k) w M = _
          unfold f_X3_vehicle
          rw [hz_r2 hz, sb_k, hm, bi_k, if_neg (by decide), m_in (a := 0) (b := 0) (a' := 0) (b' := 4) (by decide) (by decide), if_neg hw, bi_k, if_pos rfl]
          unfold f_X3_vehicle_b34
          rw [iv_k (hz_x0 hz), m_ref1 (hz_x0 hz) (by decide), bi_k, if_neg (by decide)]
          rfl
    · refine hthrow (x2_noVeh hz hP (fun e => ?_)) ?_
      · exact hk (e.2 l rfl hl3)
      · rw [m_isVehicle (hz_now hz) hR hl rfl, if_neg hk]
  · exact hthrow (x2_noVeh hz hP (fun e => hy e.1)) (m_noVehicle (hz_now hz) hR hy)
/-! why -/
theorem q_why {y : Int32} (hz : HZ8 z a) (h : SR8 M a B) : AG8 a M B (fun M => f_L_why z a y (a + 391) M) (fun M => f_X3_why z (a + 383) y M) := by
  have hP := h.2.1
  have hR := hP.2.1
  by_cases hy : 0 ≤ y.toInt ∧ y.toInt < (kn8 (M (a + 385)) : Int)
  · obtain ⟨l, hl, rfl⟩ := y_nat hy
    have hl3 := (g8_at hP hl).2.2.2.1
    have hx : f_X2_why z a (nI l) M = some (.inl (some (.int (rs9 (kc8 (M (a + 385)) l) (pu_s (M (a + 385)) l)))), M) := by
      unfold f_X2_why
      rw [iv_k hz.1.1, x2_checkLane hz hP hy, bv_k, hz_rP hz, sb_k, hz_rg (hz_P hz), sb_k, g8_la (hz_P hz) hl3, sb_k, iv_k ((hz_P hz).2.2.2 l hl3).1, x1_why (hz_P hz) hP hl, bi_k]
      rfl
    refine ag_query (v := rs9 (kc8 (M (a + 385)) l) (pu_s (M (a + 385)) l)) h ?_ ?_
    · show f_L_why z a (nI l) (a + 391) M = _
      unfold f_L_why
      rw [iv_k hz.1.1, hx, bh_k]
      exact sl_out hz
    · show f_X3_why z (a + 383) (nI l) _ = _
      generalize hN : wr9 M (a + 391) 0 (rs9 (kc8 (M (a + 385)) l) (pu_s (M (a + 385)) l)) = N
      have hQ : N (a + 385) = M (a + 385) := by rw [← hN]; exact wr9_ne (by omega)
      have e2 := m_whyOf (M := wr9 N (a + 383) 0 0) (x := a + 385) (l := l) (hz_now hz) (by rw [w0_r (by omega), hQ]; exact hR) (by rw [w0_r (by omega), hQ]; exact hl)
      rw [w0_r (by omega), hQ] at e2
      unfold f_X3_why
      rw [hz_r2 hz, sb_k, m_lane1 (hz_now hz) (by rw [hQ]; exact hR) (by rw [hQ]; exact hl), bi_k, if_neg (by decide)]
      unfold f_X3_why_b17
      rw [iv_k (hz_x0 hz), m_ref0 (hz_x0 hz), bi_k, if_pos rfl, hz_r2 hz, sb_k, e2, bi_k]
      rfl
  · refine ag_throw (e := 1) (b := 0) h (by decide) ?_ ?_
    · show f_L_why z a y (a + 391) M = _
      unfold f_L_why f_X2_why
      rw [iv_k hz.1.1, iv_k hz.1.1, x2_noLane hz hP hy, bv_r, bh_r, if_pos rfl]
      rfl
    · show f_X3_why z (a + 383) y M = _
      unfold f_X3_why
      rw [hz_r2 hz, sb_k, m_lane0 (hz_now hz) hR hy, bi_k, if_pos rfl]
      unfold f_X3_why_b17
      rw [iv_k (hz_x0 hz), m_ref1 (hz_x0 hz) (by decide), bi_k, if_neg (by decide)]
      rfl
/-! setting -/
theorem q_setting {y : Int32} (hz : HZ8 z a) (h : SR8 M a B) : AG8 a M B (fun M => f_L_setting z a y (a + 391) M) (fun M => f_X3_setting z (a + 383) y M) := by
  have hP := h.2.1
  by_cases hy : 0 ≤ y.toInt ∧ y.toInt ≤ 2
  · obtain ⟨w, hw, rfl⟩ := y_of (n := 2) hy (by decide)
    have hx : f_X2_setting z a (nI w) M = some (.inl (some (.int (M (a + 385) (7 + w)))), M) := by
      unfold f_X2_setting
      rw [if_neg (nI_pos (by omega)), if_pos (show nI w < 3 from nI_lt (b := 3) (by omega) (by decide)), hz_rP hz, sb_k, rf_k (hz_P hz).1, sb_k, ld_k (hz_P hz).2.2.1 (by omega) (by decide), sb_k, hP.2.2.2.1 w (by omega)]
      rfl
    refine ag_query (v := M (a + 385) (7 + w)) h ?_ ?_
    · show f_L_setting z a (nI w) (a + 391) M = _
      unfold f_L_setting
      rw [iv_k hz.1.1, hx, bh_k]
      exact sl_out hz
    · show f_X3_setting z (a + 383) (nI w) _ = _
      unfold f_X3_setting
      rw [m_in (a := 0) (b := 0) (a' := 0) (b' := 2) (by decide) (by decide), if_pos hy, bi_k, if_neg (by decide)]
      unfold f_X3_setting_b18
      rw [iv_k (hz_x0 hz), m_ref0 (hz_x0 hz), bi_k, if_pos rfl, hz_r2 hz, sb_k, show (7 : Int32) = nI 7 from rfl, nI_add, ld_k (hz_now hz) (by omega) (by decide), sb_k, wr_na (by omega), wr_na (by omega)]
      rfl
  · refine ag_throw (e := 1) (b := 0) h (by decide) ?_ ?_
    · have hx : f_X2_setting z a y M = some (.inr "java/lang/IllegalArgumentException", M) := by
        unfold f_X2_setting
        by_cases h1 : y < 0
        · rw [if_pos h1]
          rfl
        · rw [if_neg h1, if_neg (by rw [i32_lt, i32_0] at h1; rw [i32_lt, i32_3]; omega)]
          rfl
      show f_L_setting z a y (a + 391) M = _
      unfold f_L_setting
      rw [iv_k hz.1.1, hx, bh_r, if_pos rfl]
      rfl
    · show f_X3_setting z (a + 383) y M = _
      unfold f_X3_setting
      rw [m_in (a := 0) (b := 0) (a' := 0) (b' := 2) (by decide) (by decide), if_neg hy, bi_k, if_pos rfl]
      unfold f_X3_setting_b18
      rw [iv_k (hz_x0 hz), m_ref1 (hz_x0 hz) (by decide), bi_k, if_neg (by decide)]
      rfl
end RL
