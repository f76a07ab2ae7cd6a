theorem sx_k {L n : Nat} {xs : Nat → Int32} (hn : n < L) (hL : L ≤ 2560) : sx9 L xs (nI n) = some (xs n) := by
  unfold sx9
  rw [if_pos (by rw [nI_toInt (by omega)]; omega), nI_clamp (by omega)]
theorem lw_out {L i : Nat} (hL : L < i + 5) (hi : i ≤ L) (h : L ≤ 2560) : (Int32.ofNat L) - (5 : Int32) < nI i := by
  by_cases h5 : L < 5
  · have key : ∀ l, l < 5 → ∀ j, j < 5 → (Int32.ofNat l) - (5 : Int32) < Int32.ofNat j := by decide +kernel
    exact key L h5 i (by omega)
  · show nI L - nI 5 < nI i
    rw [nI_sub (by omega)]
    exact nI_lt (by omega) (by omega)
theorem lw_in {L i : Nat} (hL : i + 5 ≤ L) (h : L ≤ 2560) : ¬ (Int32.ofNat L) - (5 : Int32) < nI i := by
  show ¬ nI L - nI 5 < nI i
  rw [nI_sub (by omega)]
  exact nI_nlt (by omega) (by omega)
theorem law_loop {a L : Nat} {xs : Nat → Int32} (hL : L ≤ 2560) : ∀ m i M, L ≤ i + m → i ≤ L → SR8 M a (6000 * i) → ∃ M', fx9 (fun _ _ _ _ _ => none) (f_L_law_b23 (a, 392, kd9) L xs) (m + 1) a (a + 383) (a + 391) (nI i) M = some (.inl (some (.int 1)), M') := by
  intro m
  induction m with
  | zero =>
    intro i M h1 h2 _
    rw [fx_k]
    unfold f_L_law_b23
    rw [if_pos (lw_out (by omega) h2 hL)]
    exact ⟨M, rfl⟩
  | succ m ih =>
    intro i M h1 h2 hS
    rw [fx_k]
    unfold f_L_law_b23
    by_cases h5 : i + 5 ≤ L
    · have hz : HZ8 ((a, 392, kd9) : Sh9) a := hz_mk
      have x0 : sx9 L xs (nI i) = some (xs i) := sx_k (by omega) hL
      have x1 : sx9 L xs (nI i + 1) = some (xs (i + 1)) := by
        rw [show nI i + 1 = nI (i + 1) from nI_add i 1]
        exact sx_k (by omega) hL
      have x2 : sx9 L xs (nI i + 2) = some (xs (i + 2)) := by
        rw [show nI i + 2 = nI (i + 2) from nI_add i 2]
        exact sx_k (by omega) hL
      have x3 : sx9 L xs (nI i + 3) = some (xs (i + 3)) := by
        rw [show nI i + 3 = nI (i + 3) from nI_add i 3]
        exact sx_k (by omega) hL
      have x4 : sx9 L xs (nI i + 4) = some (xs (i + 4)) := by
        rw [show nI i + 4 = nI (i + 4) from nI_add i 4]
        exact sx_k (by omega) hL
      have fin : ∀ f, LK8 (a, 392, kd9) a (6000 * i) (nI i) f → ∃ M', f (fx9 (fun _ _ _ _ _ => none) (f_L_law_b23 (a, 392, kd9) L xs) (m + 1)) = some (.inl (some (.int 1)), M') := by
        rintro f ⟨M2, s2, g⟩
        rw [g, show nI i + 5 = nI (i + 5) from nI_add i 5]
        exact ih (i + 5) M2 (by omega) h5 (sr_mono s2 (by omega))
      rw [if_neg (lw_in h5 hL), x0, sb_k, nm_k]
      generalize xs i &&& 31 = y
      by_cases c0 : y = 0
      · rw [if_pos c0]
        exact fin _ (lk_152 hz hS x1)
      rw [if_neg c0]
      by_cases c1 : y = 1
      · rw [if_pos c1]
        exact fin _ (lk_208 hz hS)
      rw [if_neg c1]
      by_cases c2 : y = 2
      · rw [if_pos c2]
        exact fin _ (lk_221 hz hS)
      rw [if_neg c2]
      by_cases c3 : y = 3
      · rw [if_pos c3]
        exact fin _ (lk_234 hz hS)
      rw [if_neg c3]
      by_cases c4 : y = 4
      · rw [if_pos c4]
        exact fin _ (lk_278 hz hS x1)
      rw [if_neg c4]
      by_cases c5 : y = 5
      · rw [if_pos c5]
        exact fin _ (lk_334 hz hS x1 x2)
      rw [if_neg c5]
      by_cases c6 : y = 6
      · rw [if_pos c6]
        exact fin _ (lk_402 hz hS x1 x2 x3)
      rw [if_neg c6]
      by_cases c7 : y = 7
      · rw [if_pos c7]
        exact fin _ (lk_482 hz hS x1)
      rw [if_neg c7]
      by_cases c8 : y = 8
      · rw [if_pos c8]
        exact fin _ (lk_538 hz hS x1)
      rw [if_neg c8]
      by_cases c9 : y = 9
      · rw [if_pos c9]
        exact fin _ (lk_594 hz hS)
      rw [if_neg c9]
      by_cases c10 : y = 10
      · rw [if_pos c10]
        exact fin _ (lk_638 hz hS x1 x2 x3 x4)
      rw [if_neg c10]
      by_cases c11 : y = 11
      · rw [if_pos c11]
        exact fin _ (lk_762 hz hS x1 x2)
      rw [if_neg c11]
      by_cases c12 : y = 12
      · rw [if_pos c12]
        exact fin _ (lk_846 hz hS x1)
      rw [if_neg c12]
      by_cases c13 : y = 13
      · rw [if_pos c13]
        exact fin _ (lk_902 hz hS x1)
      rw [if_neg c13]
      by_cases c14 : y = 14
      · rw [if_pos c14]
        exact fin _ (lk_958 hz hS x1 x2)
      rw [if_neg c14]
      by_cases c15 : y = 15
      · rw [if_pos c15]
        exact fin _ (lk_1026 hz hS)
      rw [if_neg c15]
      by_cases c16 : y = 16
      · rw [if_pos c16]
        exact fin _ (lk_1070 hz hS x1)
      rw [if_neg c16]
      by_cases c17 : y = 17
      · rw [if_pos c17]
        exact fin _ (lk_1126 hz hS x1 x2)
      rw [if_neg c17]
      by_cases c18 : y = 18
      · rw [if_pos c18]
        exact fin _ (lk_1194 hz hS x1)
      rw [if_neg c18]
      by_cases c19 : y = 19
      · rw [if_pos c19]
        exact fin _ (lk_1250 hz hS x1 x2)
      rw [if_neg c19]
      by_cases c20 : y = 20
      · rw [if_pos c20]
        exact fin _ (lk_1318 (by omega) hz hS x1)
      rw [if_neg c20]
      by_cases c21 : y = 21
      · rw [if_pos c21]
        exact fin _ (lk_1374 hz hS x1 x2 x3)
      rw [if_neg c21]
      by_cases c22 : y = 22
      · rw [if_pos c22]
        exact fin _ (lk_1474 hz hS x1 x2 x3)
      rw [if_neg c22]
      by_cases c23 : y = 23
      · rw [if_pos c23]
        exact fin _ (lk_1574 hz hS x1)
      rw [if_neg c23]
      by_cases c24 : y = 24
      · rw [if_pos c24]
        exact fin _ (lk_1630 hz hS x1)
      rw [if_neg c24]
      exact fin (fun G => G a (a + 383) (a + 391) (nI i + 5) M) ⟨M, sr_mono hS (by omega), fun _ => rfl⟩
    · rw [if_pos (lw_out (by omega) h2 hL)]
      exact ⟨M, rfl⟩
theorem law_pure {a L : Nat} {xs : Nat → Int32} (hL : L ≤ 2560) : ∃ M', fx9 (fun _ _ _ _ _ => none) (f_L_law_b23 (a, 392, kd9) L xs) FU9 a (a + 383) (a + 391) 0 (mem9 a) = some (.inl (some (.int 1)), M') :=
  law_loop hL 5999 0 (mem9 a) (by omega) (by omega) sr_0
