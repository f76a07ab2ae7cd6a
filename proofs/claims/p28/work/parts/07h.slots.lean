section RO
variable {z : Sh9} {M M' M1 M2 M6 N : Mem9} {g x y x0 n c B B' l a A : Nat} {Q Q' : Nat → Int32}
/-! save slots -/
theorem x2_slot {y : Int32} (hy : 0 ≤ y.toInt ∧ y.toInt ≤ 1) : f_X2_checkSlot z y M = some (.inl none, M) := by
  unfold f_X2_checkSlot
  rw [if_neg (by rw [i32_lt, i32_0]; omega), if_pos (by rw [i32_lt, i32_2]; omega)]
  rfl
theorem x2_noSlot {y : Int32} (hy : ¬ (0 ≤ y.toInt ∧ y.toInt ≤ 1)) : f_X2_checkSlot z y M = some (.inr "java/lang/IndexOutOfBoundsException", M) := by
  unfold f_X2_checkSlot
  by_cases h : y < 0
  · rw [if_pos h]
    rfl
  · rw [if_neg h, if_neg (by rw [i32_lt, i32_0] at h; rw [i32_lt, i32_2]; omega)]
    rfl
end RO
