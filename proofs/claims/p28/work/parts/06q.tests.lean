section QL
variable {z : Sh9} {x l c : Nat} {M : Mem9} {R p : Nat → Int32}
theorem cmp_lt (x y : Int64) : lg_cmp x y < 0 ↔ x.toInt < y.toInt := by
  have h := lg_cmp_ge x y
  rw [Int64.le_iff_toInt_le] at h
  constructor
  · intro q
    have : ¬ 0 ≤ lg_cmp x y := fun e => by rw [i32_le] at e; rw [i32_lt] at q; omega
    rw [h] at this
    omega
  · intro q
    have : ¬ 0 ≤ lg_cmp x y := fun e => by have := h.mp e; omega
    rw [i32_le] at this
    rw [i32_lt]
    omega
theorem cmp_gt (x y : Int64) : 0 < lg_cmp x y ↔ y.toInt < x.toInt := by
  unfold lg_cmp
  by_cases h : x > y
  · rw [if_pos h]
    have h2 : y.toInt < x.toInt := Int64.lt_iff_toInt_lt.mp h
    exact ⟨fun _ => h2, fun _ => by decide⟩
  · rw [if_neg h]
    have h2 : ¬ y.toInt < x.toInt := fun e => h (Int64.lt_iff_toInt_lt.mpr e)
    by_cases e : x = y
    · rw [if_pos e]
      exact ⟨fun q => absurd q (by decide), fun q => absurd q h2⟩
    · rw [if_neg e]
      exact ⟨fun q => absurd q (by decide), fun q => absurd q h2⟩
end QL
