section RO
variable {z : Sh9} {M M' M1 M2 M6 N : Mem9} {g x y x0 n c B B' l a A : Nat} {Q Q' : Nat → Int32}
theorem cp_in {to k : Nat} {f g : Nat → Int32} (hk : k < 121) : cp8 to f g (to + k) = f k := by
  unfold cp8
  rw [if_pos (by omega), show to + k - to = k by omega]
theorem cp_0 {k : Nat} {f g : Nat → Int32} (hk : k < 121) : cp8 0 f g k = f k := by
  unfold cp8
  rw [if_pos (by omega), show k - 0 = k by omega]
theorem cp_out {to k : Nat} {f g : Nat → Int32} (hk : ¬ (to ≤ k ∧ k < to + 121)) : cp8 to f g k = g k := if_neg hk
/-- the present gate is another -/
theorem sr_rep (h : SR8 M a B) (f : ∀ q k, (q < a + 2 ∨ a + 23 ≤ q) → q ≠ a + 391 → q ≠ a + 385 → (q = a → k ≠ 5 ∧ k ≠ 6) → (q = a + 383 → k ≠ 0 ∧ k ≠ 6) → M6 q k = M q k) (g : GR8 M6 (a + 2) (M6 (a + 385)) B) (hD : ∃ A o, A ≤ 14 ∧ o < 14 ∧ M6 (a + 383) 6 = nI A ∧ M6 a 5 = nI o ∧ M6 a 6 = nI A ∧ ∀ j, j < A → GR8 M (a + 47 + 21 * ((o + j) % 14)) (dy8 M a j) B) : SR8 M6 a B := by
  obtain ⟨⟨T, t1, t2, t3, t4⟩, -, -, hK⟩ := h
  obtain ⟨A, o, d1, d2, d3, d4, d5, d6⟩ := hD
  have e1 : ∀ q k, a + 23 ≤ q → q ≠ a + 383 → q ≠ a + 385 → q ≠ a + 391 → M6 q k = M q k := fun q k h1 h2 h3 h4 => f q k (by omega) h4 h3 (fun _ => by omega) (fun e => absurd e h2)
  refine ⟨⟨T, t1, ?_, ?_, fun i hi => ?_⟩, g, ⟨A, d1, d3, o, d2, d4, d5, fun j hj => ?_⟩, fun j hj => ?_⟩
  · rw [f _ _ (by omega) (by omega) (by omega) (fun _ => by omega) (fun _ => by omega)]; exact t2
  · rw [f _ _ (by omega) (by omega) (by omega) (fun _ => by omega) (fun _ => by omega)]; exact t3
  · rw [f (a + 1) _ (by omega) (by omega) (by omega) (fun _ => by omega) (fun _ => by omega), e1 _ _ (by omega) (by omega) (by omega) (by omega)]; exact t4 i hi
  · rw [show dy8 M6 a j = dy8 M a j from funext fun i => e1 _ _ (by omega) (by omega) (by omega) (by omega)]
    exact g8_same (d6 j hj) (fun q k h1 h2 => e1 q k (by omega) (by omega) (by omega) (by omega))
  · obtain ⟨k1, k2, k3⟩ := hK j hj
    rw [e1 (a + 46) _ (by omega) (by omega) (by omega) (by omega), e1 (a + 389) _ (by omega) (by omega) (by omega) (by omega), show kp8 M6 a j = kp8 M a j from funext fun i => e1 _ _ (by omega) (by omega) (by omega) (by omega)]
    exact ⟨k1, k2, fun h => g8_same (k3 h) (fun q k h1 h2 => e1 q k (by omega) (by omega) (by omega) (by omega))⟩
theorem q_undo (hz : HZ8 z a) (h : SR8 M a B) : AG8 a M B (fun M => f_L_undo z a (a + 391) M) (fun M => f_X3_undo z (a + 383) M) := by
  obtain ⟨A, d1, d2, o, d3, d4, d5, d6⟩ := h.2.2.1
  by_cases h0 : A = 0
  · subst h0
    refine ag_throw (e := 1) (b := 0) h (by decide) ?_ ?_
    · have hx : f_X2_undo z a M = some (.inr "java/lang/IllegalStateException", M) := by
        unfold f_X2_undo
        rw [gf_k hz.1.1, sb_k, d5, if_neg (by decide)]
        rfl
      show f_L_undo z a (a + 391) M = _
      unfold f_L_undo
      rw [iv_k hz.1.1, hx, bh_r, if_pos rfl]
      rfl
    · show f_X3_undo z (a + 383) M = _
      unfold f_X3_undo
      rw [gf_k (hz_x0 hz), sb_k, d2, if_pos (by decide)]
      unfold f_X3_undo_b13
      rw [iv_k (hz_x0 hz), m_ref1 (hz_x0 hz) (by decide), bi_k, if_neg (by decide)]
      rfl
  · obtain ⟨k, rfl⟩ : ∃ k, A = k + 1 := ⟨A - 1, by omega⟩
    obtain ⟨i, hi, hi14⟩ : ∃ i, i = (o + k) % 14 ∧ i < 14 := ⟨_, rfl, by omega⟩
    have hrm : rm9 (nI o + nI k) 14 = some (nI i) := by rw [nI_add, rm_14 _ (by omega), hi]
    have hg : GR8 M (a + 47 + 21 * i) (dy8 M a k) B := by rw [hi]; exact d6 k (by omega)
    obtain ⟨M2, t2, f2, g2⟩ := x0_copy (M := wr9 M a 6 (nI k)) (hz_P hz) (hz.2.2.2.2.1 i hi14) (by omega) (g8_out hg (f8_w (b := a) (k := 6) (v := nI k)) (by omega))
    have hx : f_X2_undo z a M = some (.inl (some (.int (nI k))), M2) := by
      unfold f_X2_undo
      rw [gf_k hz.1.1, sb_k, d5, if_pos (show (0 : Int32) < nI (k + 1) from nI_lt (a := 0) (by omega) (by omega)), sb_k, nI_pred, pf_k hz.1.1, sb_k, hz_rP hz, sb_k, rf_k hz.1.1, sb_k, gf_k hz.1.1, sb_k, gf_k hz.1.1, sb_k, wr_nk (by decide), wr_eq, d4, hrm, sb_k, hz_la15 hz hi14, sb_k, iv_k (hz_P hz).1, t2, bv_k, gf_k hz.1.1, sb_k, f2 a 6 (by omega), wr_eq]
      rfl
    have e2 : ∀ q k', q ≠ a → (q < a + 2 ∨ a + 23 ≤ q) → M2 q k' = M q k' := fun q k' h1 h2 => by rw [f2 q k' (by omega), wr_na h1]
    refine ag_ret (v := nI k) (M1 := M2) ?_ ?_
    · show f_L_undo z a (a + 391) M = _
      unfold f_L_undo
      rw [iv_k hz.1.1, hx, bh_k]
      exact sl_out hz
    · show ∃ M2', f_X3_undo z (a + 383) _ = _ ∧ _
      generalize hN : wr9 M2 (a + 391) 0 (nI k) = N
      have eN : ∀ q k', q ≠ a → q ≠ a + 391 → (q < a + 2 ∨ a + 23 ≤ q) → N q k' = M q k' := fun q k' h1 h2 h3 => by rw [← hN, wr_na h2, e2 q k' h1 h3]
      have hc := m_copy (M := wr9 (wr9 N (a + 383) 0 0) (a + 383) 6 (nI k)) (x := a + 387) (y := a + 385) (fo := 121 * k) (to := 0) hz.2.1.2.2.2.2.1 (hz_now hz) (by omega) (by omega) (by omega) (by decide) (by decide)
      generalize hM6 : pu_R (wr9 (wr9 N (a + 383) 0 0) (a + 383) 6 (nI k)) (a + 385) (cp8 0 (fun i => wr9 (wr9 N (a + 383) 0 0) (a + 383) 6 (nI k) (a + 387) (121 * k + i)) (wr9 (wr9 N (a + 383) 0 0) (a + 383) 6 (nI k) (a + 385))) = M6 at hc
      have e6 : ∀ q k', q ≠ a + 385 → (q = a + 383 → k' ≠ 0 ∧ k' ≠ 6) → M6 q k' = N q k' := fun q k' h1 h2 => by
        rw [← hM6, pr_o h1]
        by_cases e : q = a + 383
        · rw [e, wr_nk (h2 e).2, wr_nk (h2 e).1]
        · rw [wr_na e, wr_na e]
      have e66 : M6 (a + 383) 6 = nI k := by rw [← hM6, pr_o (by omega), wr_eq]
      refine ⟨M6, ?_, ?_, ?_, sr_rep h (fun q k' h1 h2 h3 h4 h5 => ?_) ?_ ⟨k, o, by omega, d3, e66, ?_, ?_, fun j hj => d6 j (by omega)⟩⟩
      · unfold f_X3_undo
        rw [gf_k (hz_x0 hz), sb_k, eN _ _ (by omega) (by omega) (by omega), d2, if_neg (nI_ne0 (by omega) (by omega))]
        unfold f_X3_undo_b13
        rw [iv_k (hz_x0 hz), m_ref0 (hz_x0 hz), bi_k, if_pos rfl, gf_k (hz_x0 hz), sb_k, wr_nk (by decide), eN _ _ (by omega) (by omega) (by omega), d2, nI_pred, pf_k (hz_x0 hz), sb_k, hz_r4 hz, sb_k, gf_k (hz_x0 hz), sb_k, wr_eq, hz_r2 hz, sb_k, show (121 : Int32) = nI 121 from rfl, nI_mul, show f_X3_copyState z (a + 387) (nI (121 * k)) (a + 385) 0 (wr9 (wr9 N (a + 383) 0 0) (a + 383) 6 (nI k)) = _ from hc, bv_k, gf_k (hz_x0 hz), sb_k, e66]
        rfl
      · rw [← hM6, pr_o (by omega), wr_nk (by decide), wr_eq]
      · rw [e6 _ _ (by omega) (fun _ => by omega), ← hN, wr_eq]
      · rw [e6 q k' h3 h5, ← hN, wr_na h2]
        by_cases e : q = a
        · rw [e, f2 a k' (by omega), wr_nk (h4 e).2]
        · exact e2 q k' e h1
      · refine g8_row (g8_same g2 (fun q k' h1 h2 => ?_)) (fun i' hi' => ?_)
        · rw [e6 q k' (by omega) (fun _ => by omega), ← hN, wr_na (by omega)]
        · rw [← hM6, pr_x]
          rw [cp_0 hi', wr_na (by omega), wr_na (by omega), eN _ _ (by omega) (by omega) (by omega)]
          rfl
      · rw [e6 _ _ (by omega) (fun _ => by omega), ← hN, wr_na (by omega), f2 a 5 (by omega), wr_nk (by decide)]; exact d4
      · rw [e6 _ _ (by omega) (fun _ => by omega), ← hN, wr_na (by omega), f2 a 6 (by omega), wr_eq]
/-! save slots -/
theorem x2_slot {y : Int32} (hy : 0 ≤ y.toInt ∧ y.toInt ≤ 1) : f_X2_checkSlot z y M = some (.inl none, M) := by
  unfold f_X2_checkSlot
  rw [if_neg (by rw [i32_lt, i32_0]; omega), if_pos (by rw [i32_lt, i32_2]; omega)]
  rfl
theorem x2_noSlot {y : Int32} (hy : ¬ (0 ≤ y.toInt ∧ y.toInt ≤ 1)) : f_X2_checkSlot z y M = some (.inr "java/lang/IndexOutOfBoundsException", M) := by
  unfold f_X2_checkSlot
  by_cases h : y < 0
  · rw [if_pos h]
    rfl
  · rw [if_neg h, if_neg (by rw [i32_lt, i32_0] at h; rw [i32_lt, i32_2]; omega)]
    rfl
theorem q_save {y : Int32} (hz : HZ8 z a) (h : SR8 M a B) : AG8 a M B (fun M => f_L_save z a y (a + 391) M) (fun M => f_X3_save z (a + 383) y M) := by
  have hP := h.2.1
  by_cases hy : 0 ≤ y.toInt ∧ y.toInt ≤ 1
  · obtain ⟨s, hs, rfl⟩ := y_of (n := 1) hy (by decide)
    obtain ⟨M1, t1, f1, g1⟩ := x0_copy (hz.2.2.2.2.2 s (by omega)) (hz_P hz) (by omega) hP
    have hx : f_X2_save z a (nI s) M = some (.inl (some (.int (M (a + 385) 1))), wr9 M1 (a + 46) s 1) := by
      unfold f_X2_save
      rw [x2_slot hy, bv_k, rf_k hz.1.1, sb_k, hz_la16 hz (by omega), sb_k, hz_rP hz, sb_k, iv_k (hz.2.2.2.2.2 s (by omega)).1, t1, bv_k, rf_k hz.1.1, sb_k, sz_k hz.1.2.2.2.2 (by omega) (by decide) (Or.inr rfl), sb_k, sb_k, gf_k (hz_P hz).1, sb_k, wr_na (by omega), f1 _ _ (by omega), hP.1]
      rfl
    refine ag_ret (v := M (a + 385) 1) (M1 := wr9 M1 (a + 46) s 1) ?_ ?_
    · show f_L_save z a (nI s) (a + 391) M = _
      unfold f_L_save
      rw [iv_k hz.1.1, hx, bh_k]
      exact sl_out hz
    · show ∃ M2', f_X3_save z (a + 383) (nI s) _ = _ ∧ _
      generalize hN : wr9 (wr9 (wr9 M1 (a + 46) s 1) (a + 391) 0 (M (a + 385) 1)) (a + 383) 0 0 = N
      have eN : ∀ q k', (q < a + 341 ∨ a + 383 ≤ q) → q ≠ a + 391 → (q = a + 46 → k' ≠ s) → (q = a + 383 → k' ≠ 0) → N q k' = M q k' := fun q k' h1 h2 h3 h4 => by
        rw [← hN]
        have g1 : wr9 (wr9 (wr9 M1 (a + 46) s 1) (a + 391) 0 (M (a + 385) 1)) (a + 383) 0 0 q k' = wr9 (wr9 M1 (a + 46) s 1) (a + 391) 0 (M (a + 385) 1) q k' := by
          by_cases e : q = a + 383
          · rw [e, wr_nk (h4 e)]
          · exact wr_na e
        rw [g1, wr_na h2]
        by_cases e : q = a + 46
        · rw [e, wr_nk (h3 e), f1 _ _ (by omega)]
        · rw [wr_na e, f1 _ _ (by omega)]
      have hc := m_copy (M := N) (x := a + 385) (y := a + 388) (fo := 0) (to := 121 * s) (hz_now hz) hz.2.1.2.2.2.2.2.1 (by omega) (by omega) (by omega) (by decide) (by decide)
      generalize hM5 : pu_R N (a + 388) (cp8 (121 * s) (fun i => N (a + 385) (0 + i)) (N (a + 388))) = M5 at hc
      have e5 : ∀ q k', q ≠ a + 388 → M5 q k' = N q k' := fun q k' h1 => by rw [← hM5, pr_o h1]
      have e6 : ∀ q k', q ≠ a + 388 → (q = a + 389 → k' ≠ s) → wr9 M5 (a + 389) s 1 q k' = N q k' := fun q k' h1 h2 => by
        by_cases e : q = a + 389
        · rw [e, wr_nk (h2 e), e5 _ _ (by omega)]
        · rw [wr_na e, e5 _ _ h1]
      have e8 : ∀ j i, j < 2 → i < 121 → wr9 M5 (a + 389) s 1 (a + 388) (121 * j + i) = if j = s then M (a + 385) i else M (a + 388) (121 * j + i) := fun j i hj hi => by
        rw [wr_na (by omega), ← hM5, pr_x]
        by_cases e : j = s
        · rw [if_pos e, e, cp_in hi, eN _ _ (by omega) (by omega) (fun _ => by omega) (fun _ => by omega), Nat.zero_add]
        · rw [if_neg e, cp_out (by omega), eN _ _ (by omega) (by omega) (fun _ => by omega) (fun _ => by omega)]
      refine ⟨wr9 M5 (a + 389) s 1, ?_, ?_, ?_, ?_⟩
      · unfold f_X3_save
        rw [m_in (a := 0) (b := 0) (a' := 0) (b' := 1) (by decide) (by decide), if_pos hy, bi_k, if_neg (by decide)]
        unfold f_X3_save_b16
        rw [iv_k (hz_x0 hz), m_ref0 (hz_x0 hz), bi_k, if_pos rfl, hN, hz_r2 hz, sb_k, hz_r5 hz, sb_k, show (121 : Int32) = nI 121 from rfl, nI_mul, show f_X3_copyState z (a + 385) 0 (a + 388) (nI (121 * s)) N = _ from hc, bv_k, hz_r6 hz, sb_k, sz_k hz.2.1.2.2.2.2.2.2.1 (by omega) (by decide) (Or.inr rfl), sb_k, sb_k, show (1 : Int32) = nI 1 from rfl, ld_k (hz_now hz) (by decide) (by decide), sb_k, show wr9 M5 (a + 389) s (nI 1) (a + 385) 1 = M (a + 385) 1 from (e6 _ _ (by omega) (fun _ => by omega)).trans (eN _ _ (by omega) (by omega) (fun _ => by omega) (fun _ => by omega))]
        rfl
      · rw [e6 _ _ (by omega) (fun _ => by omega), ← hN, wr_eq]
      · rw [e6 _ _ (by omega) (fun _ => by omega), ← hN, wr_na (by omega), wr_eq]
      · obtain ⟨⟨T, t1, t2, t3, t4⟩, -, ⟨A, d1, d2, o, d3, d4, d5, d6⟩, hK⟩ := h
        have s1 : ∀ q k', q < a + 341 → (q = a + 46 → k' ≠ s) → wr9 M5 (a + 389) s 1 q k' = M q k' := fun q k' h1 h2 => by
          rw [e6 q k' (by omega) (fun _ => by omega), eN q k' (by omega) (by omega) h2 (fun _ => by omega)]
        have s2 : ∀ q k', (q = a + 384 ∨ q = a + 385 ∨ q = a + 387) → wr9 M5 (a + 389) s 1 q k' = M q k' := fun q k' h1 => by
          rw [e6 q k' (by omega) (fun _ => by omega), eN q k' (by omega) (by omega) (fun _ => by omega) (fun _ => by omega)]
        have s3 : ∀ q k', a + 341 ≤ q → q < a + 383 → wr9 M5 (a + 389) s 1 q k' = M1 q k' := fun q k' h1 h2 => by
          rw [e6 q k' (by omega) (fun _ => by omega), ← hN, wr_na (by omega), wr_na (by omega), wr_na (by omega)]
        refine ⟨⟨T, t1, ?_, ?_, fun i hi => ?_⟩, ?_, ⟨A, d1, ?_, o, d3, ?_, ?_, fun j hj => ?_⟩, fun j hj => ?_⟩
        · rw [s1 _ _ (by omega) (fun _ => by omega)]; exact t2
        · rw [e6 _ _ (by omega) (fun _ => by omega), eN _ _ (by omega) (by omega) (fun _ => by omega) (fun _ => by omega)]; exact t3
        · rw [s1 _ _ (by omega) (fun _ => by omega), s2 _ _ (by omega)]; exact t4 i hi
        · rw [show wr9 M5 (a + 389) s 1 (a + 385) = M (a + 385) from funext fun k => s2 _ _ (by omega)]
          exact g8_same hP (fun q k h1 h2 => s1 q k (by omega) (fun _ => by omega))
        · rw [e6 _ _ (by omega) (fun _ => by omega), eN _ _ (by omega) (by omega) (fun _ => by omega) (fun _ => by omega)]; exact d2
        · rw [s1 _ _ (by omega) (fun _ => by omega)]; exact d4
        · rw [s1 _ _ (by omega) (fun _ => by omega)]; exact d5
        · rw [show dy8 (wr9 M5 (a + 389) s 1) a j = dy8 M a j from funext fun i => s2 _ _ (by omega)]
          exact g8_same (d6 j hj) (fun q k h1 h2 => s1 q k (by omega) (fun _ => by omega))
        · by_cases e : j = s
          · subst e
            have q1 : wr9 M5 (a + 389) j 1 (a + 46) j = 1 := by
              rw [e6 _ _ (by omega) (fun _ => by omega), ← hN, wr_na (by omega), wr_na (by omega), wr_eq]
            rw [q1, wr_eq]
            refine ⟨rfl, Or.inr rfl, fun _ => g8_row (g8_same g1 (fun q k h1 h2 => s3 q k (by omega) (by omega))) (fun i hi => ?_)⟩
            exact (e8 j i hj hi).trans (if_pos rfl)
          · obtain ⟨k1, k2, k3⟩ := hK j hj
            have q1 : wr9 M5 (a + 389) s 1 (a + 46) j = M (a + 46) j := s1 _ _ (by omega) (fun _ => e)
            have q2 : wr9 M5 (a + 389) s 1 (a + 389) j = M (a + 389) j := by
              rw [e6 _ _ (by omega) (fun _ => e), eN _ _ (by omega) (by omega) (fun _ => by omega) (fun _ => by omega)]
            rw [q1, q2]
            refine ⟨k1, k2, fun hh => g8_row (g8_same (k3 hh) (fun q k h1 h2 => ?_)) (fun i hi => ?_)⟩
            · rw [s3 q k (by omega) (by omega), f1 q k (by omega)]
            · exact (e8 j i hj hi).trans (if_neg e)
  · refine ag_throw (e := 1) (b := 0) h (by decide) ?_ ?_
    · have hx : f_X2_save z a y M = some (.inr "java/lang/IndexOutOfBoundsException", M) := by
        unfold f_X2_save
        rw [x2_noSlot hy, bv_r]
      show f_L_save z a y (a + 391) M = _
      unfold f_L_save
      rw [iv_k hz.1.1, hx, bh_r, if_pos rfl]
      rfl
    · show f_X3_save z (a + 383) y M = _
      unfold f_X3_save
      rw [m_in (a := 0) (b := 0) (a' := 0) (b' := 1) (by decide) (by decide), if_neg hy, bi_k, if_pos rfl]
      unfold f_X3_save_b16
      rw [iv_k (hz_x0 hz), m_ref1 (hz_x0 hz) (by decide), bi_k, if_neg (by decide)]
      rfl
theorem q_restore {y : Int32} (hz : HZ8 z a) (h : SR8 M a B) : AG8 a M B (fun M => f_L_restore z a y (a + 391) M) (fun M => f_X3_restore z (a + 383) y M) := by
  by_cases hy : 0 ≤ y.toInt ∧ y.toInt ≤ 1
  · obtain ⟨s, hs, rfl⟩ := y_of (n := 1) hy (by decide)
    obtain ⟨k1, k2, k3⟩ := h.2.2.2 s (by omega)
    rcases k2 with hk | hk
    · refine ag_throw (e := 2) (b := 0) h (by decide) ?_ ?_
      · have hx : f_X2_restore z a (nI s) M = some (.inr "java/lang/IllegalStateException", M) := by
          unfold f_X2_restore
          rw [x2_slot hy, bv_k, rf_k hz.1.1, sb_k, ld_k hz.1.2.2.2.2 (by omega) (by decide), sb_k, hk, if_pos rfl]
          rfl
        show f_L_restore z a (nI s) (a + 391) M = _
        unfold f_L_restore
        rw [iv_k hz.1.1, hx, bh_r, if_neg s_si, if_pos rfl]
        rfl
      · show f_X3_restore z (a + 383) (nI s) M = _
        unfold f_X3_restore
        rw [m_in (a := 0) (b := 0) (a' := 0) (b' := 1) (by decide) (by decide), if_pos hy, bi_k, if_neg (by decide), hz_r6 hz, sb_k, ld_k hz.2.1.2.2.2.2.2.2.1 (by omega) (by decide), sb_k, ← k1, hk, if_pos rfl]
        unfold f_X3_restore_b29
        rw [iv_k (hz_x0 hz), m_ref1 (hz_x0 hz) (by decide), bi_k, if_neg (by decide)]
        rfl
    · have hg := k3 hk
      obtain ⟨M1, t1, f1, g1⟩ := x0_copy (hz_P hz) (hz.2.2.2.2.2 s (by omega)) (by omega) hg
      have hx : f_X2_restore z a (nI s) M = some (.inl (some (.int (M (a + 388) (121 * s + 1)))), wr9 (wr9 M1 a 5 0) a 6 0) := by
        unfold f_X2_restore
        rw [x2_slot hy, bv_k, rf_k hz.1.1, sb_k, ld_k hz.1.2.2.2.2 (by omega) (by decide), sb_k, hk, if_neg (by decide), hz_rP hz, sb_k, rf_k hz.1.1, sb_k, hz_la16 hz (by omega), sb_k, iv_k (hz_P hz).1, t1, bv_k, iv_k hz.1.1]
        unfold f_X2_forgetAll
        rw [pf_k hz.1.1, sb_k, pf_k hz.1.1, sb_k]
        show bv9 (some (.inl none, wr9 (wr9 M1 a 5 0) a 6 0)) _ = _
        rw [bv_k, sb_k, gf_k (hz_P hz).1, sb_k, wr_na (by omega), wr_na (by omega), g1.1]
        rfl
      refine ag_ret (v := M (a + 388) (121 * s + 1)) (M1 := wr9 (wr9 M1 a 5 0) a 6 0) ?_ ?_
      · show f_L_restore z a (nI s) (a + 391) M = _
        unfold f_L_restore
        rw [iv_k hz.1.1, hx, bh_k]
        exact sl_out hz
      · show ∃ M2', f_X3_restore z (a + 383) (nI s) _ = _ ∧ _
        generalize hN : wr9 (wr9 (wr9 M1 a 5 0) a 6 0) (a + 391) 0 (M (a + 388) (121 * s + 1)) = N
        have eN : ∀ q k', (q < a + 2 ∨ a + 23 ≤ q) → q ≠ a + 391 → (q = a → k' ≠ 5 ∧ k' ≠ 6) → N q k' = M q k' := fun q k' h1 h2 h3 => by
          rw [← hN, wr_na h2]
          by_cases e : q = a
          · rw [e, wr_nk (h3 e).2, wr_nk (h3 e).1, f1 _ _ (by omega)]
          · rw [wr_na e, wr_na e, f1 _ _ (by omega)]
        have hc := m_copy (M := wr9 N (a + 383) 0 0) (x := a + 388) (y := a + 385) (fo := 121 * s) (to := 0) hz.2.1.2.2.2.2.2.1 (hz_now hz) (by omega) (by omega) (by omega) (by decide) (by decide)
        generalize hM5 : pu_R (wr9 N (a + 383) 0 0) (a + 385) (cp8 0 (fun i => wr9 N (a + 383) 0 0 (a + 388) (121 * s + i)) (wr9 N (a + 383) 0 0 (a + 385))) = M5 at hc
        have e6 : ∀ q k', q ≠ a + 385 → (q = a + 383 → k' ≠ 0 ∧ k' ≠ 6) → wr9 M5 (a + 383) 6 0 q k' = N q k' := fun q k' h1 h2 => by
          by_cases e : q = a + 383
          · rw [e, wr_nk (h2 e).2, ← hM5, pr_o (by omega), wr_nk (h2 e).1]
          · rw [wr_na e, ← hM5, pr_o h1, wr_na e]
        have enow : ∀ i, i < 121 → wr9 M5 (a + 383) 6 0 (a + 385) i = M (a + 388) (121 * s + i) := fun i hi => by
          rw [wr_na (by omega), ← hM5, pr_x]
          rw [cp_0 hi, wr_na (by omega), eN _ _ (by omega) (by omega) (fun _ => by omega)]
        refine ⟨wr9 M5 (a + 383) 6 0, ?_, ?_, ?_, sr_rep h (fun q k' h1 h2 h3 h4 h5 => ?_) ?_ ⟨0, 0, by omega, by omega, ?_, ?_, ?_, fun j hj => by omega⟩⟩
        · unfold f_X3_restore
          rw [m_in (a := 0) (b := 0) (a' := 0) (b' := 1) (by decide) (by decide), if_pos hy, bi_k, if_neg (by decide), hz_r6 hz, sb_k, ld_k hz.2.1.2.2.2.2.2.2.1 (by omega) (by decide), sb_k, eN _ _ (by omega) (by omega) (fun _ => by omega), ← k1, hk, if_neg (by decide)]
          unfold f_X3_restore_b29
          rw [iv_k (hz_x0 hz), m_ref0 (hz_x0 hz), bi_k, if_pos rfl, hz_r5 hz, sb_k, hz_r2 hz, sb_k, show (121 : Int32) = nI 121 from rfl, nI_mul, show f_X3_copyState z (a + 388) (nI (121 * s)) (a + 385) 0 (wr9 N (a + 383) 0 0) = _ from hc, bv_k, pf_k (hz_x0 hz), sb_k, sb_k, show (1 : Int32) = nI 1 from rfl, ld_k (hz_now hz) (by decide) (by decide), sb_k, enow 1 (by decide)]
          rfl
        · rw [wr_nk (by decide), ← hM5, pr_o (by omega), wr_eq]
        · rw [e6 _ _ (by omega) (fun _ => by omega), ← hN, wr_eq]
        · rw [e6 q k' h3 h5, eN q k' h1 h2 h4]
        · refine g8_row (g8_same g1 (fun q k' h1 h2 => ?_)) enow
          rw [e6 q k' (by omega) (fun _ => by omega), ← hN, wr_na (by omega), wr_na (by omega), wr_na (by omega)]
        · rw [wr_eq]; rfl
        · rw [e6 _ _ (by omega) (fun _ => by omega), ← hN, wr_na (by omega), wr_nk (by decide), wr_eq]; rfl
        · rw [e6 _ _ (by omega) (fun _ => by omega), ← hN, wr_na (by omega), wr_eq]; rfl
  · refine ag_throw (e := 1) (b := 0) h (by decide) ?_ ?_
    · have hx : f_X2_restore z a y M = some (.inr "java/lang/IndexOutOfBoundsException", M) := by
        unfold f_X2_restore
        rw [x2_noSlot hy, bv_r]
      show f_L_restore z a y (a + 391) M = _
      unfold f_L_restore
      rw [iv_k hz.1.1, hx, bh_r, if_pos rfl]
      rfl
    · show f_X3_restore z (a + 383) y M = _
      unfold f_X3_restore
      rw [m_in (a := 0) (b := 0) (a' := 0) (b' := 1) (by decide) (by decide), if_neg hy, bi_k, if_pos rfl]
      unfold f_X3_restore_b29
      rw [iv_k (hz_x0 hz), m_ref1 (hz_x0 hz) (by decide), bi_k, if_neg (by decide)]
      rfl
end RO
