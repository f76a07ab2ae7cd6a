section QL
variable {z : Sh9} {x l c : Nat} {M : Mem9} {R p : Nat → Int32}
theorem cmp_lt (x y : Int64) : lg_cmp x y < 0 ↔ x.toInt < y.toInt := by
  have h := lg_cmp_ge x y
  rw [Int64.le_iff_toInt_le] at h
  constructor
  · intro q
    have : ¬ 0 ≤ lg_cmp x y := fun e => by rw [i32_le] at e; rw [i32_lt] at q; omega
    rw [h] at this
    omega
  · intro q
    have : ¬ 0 ≤ lg_cmp x y := fun e => by have := h.mp e; omega
    rw [i32_le] at this
    rw [i32_lt]
    omega
theorem cmp_gt (x y : Int64) : 0 < lg_cmp x y ↔ y.toInt < x.toInt := by
  unfold lg_cmp
  by_cases h : x > y
  · rw [if_pos h]
    have h2 : y.toInt < x.toInt := Int64.lt_iff_toInt_lt.mp h
    exact ⟨fun _ => h2, fun _ => by decide⟩
  · rw [if_neg h]
    have h2 : ¬ y.toInt < x.toInt := fun e => h (Int64.lt_iff_toInt_lt.mpr e)
    by_cases e : x = y
    · rw [if_pos e]
      exact ⟨fun q => absurd q (by decide), fun q => absurd q h2⟩
    · rw [if_neg e]
      exact ⟨fun q => absurd q (by decide), fun q => absurd q h2⟩
theorem em_in {v a b : Int64} : f_X3_in z v a b M = some (.inl (some (.int (if a.toInt ≤ v.toInt ∧ v.toInt ≤ b.toInt then 1 else 0))), M) := by
  unfold f_X3_in
  by_cases h1 : lg_cmp v a < 0
  · rw [if_pos h1, rz_0, if_neg (fun e => by have := (cmp_lt v a).mp h1; omega)]
  · rw [if_neg h1]
    have g1 : a.toInt ≤ v.toInt := by
      have : ¬ v.toInt < a.toInt := fun e => h1 ((cmp_lt v a).mpr e)
      omega
    by_cases h2 : 0 < lg_cmp v b
    · rw [if_pos h2, rz_0, if_neg (fun e => by have := (cmp_gt v b).mp h2; omega)]
    · rw [if_neg h2, rz_1]
      have g2 : v.toInt ≤ b.toInt := by
        have : ¬ b.toInt < v.toInt := fun e => h2 ((cmp_gt v b).mpr e)
        omega
      rw [if_pos ⟨g1, g2⟩]
theorem em_isLane {y : Int32} {n : Nat} (hx : RW9 z x 10 121) (h0 : R 0 = nI n) (hn : n ≤ 3) : f_X3_isLane z x y (pu_R M x R) = some (.inl (some (.int (if 0 ≤ y.toInt ∧ y.toInt < (n : Int) then 1 else 0))), pu_R M x R) := by
  have e0 : ld9 z (pu_R M x R) 10 x (0 : Int32) = some (R 0) := (ld_k (k := 0) hx (by decide) (by decide)).trans (by rw [pr_x])
  unfold f_X3_isLane
  rw [e0, sb_k, em_in, bi_k, h0]
  have e1 : (nI n - 1).toInt = (n : Int) - 1 := by
    rw [i32_sub (by rw [nI_toInt (by omega), i32_1]; omega) (by rw [nI_toInt (by omega), i32_1]; omega), nI_toInt (by omega), i32_1]
  have e2 : (0 : Int64).toInt = 0 := by decide
  rw [Int32.toInt_toInt64, Int32.toInt_toInt64, e1, e2]
  by_cases q : 0 ≤ y.toInt ∧ y.toInt < (n : Int)
  · rw [if_pos q, if_pos (by omega), rz_1]
  · rw [if_neg q, if_neg (by omega), rz_0]
theorem em_isLength {y : Int32} : f_X3_isLength z y M = some (.inl (some (.int (if 2 ≤ y.toInt ∧ y.toInt ≤ 12 then 1 else 0))), M) := by
  have e2 : (2 : Int64).toInt = 2 := by decide
  have e12 : (12 : Int64).toInt = 12 := by decide
  unfold f_X3_isLength
  rw [em_in, bi_k, Int32.toInt_toInt64, e2, e12]
  by_cases q : 2 ≤ y.toInt ∧ y.toInt ≤ 12
  · rw [if_pos q, rz_1]
  · rw [if_neg q, rz_0]
end QL
