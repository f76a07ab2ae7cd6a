section RL
variable {z : Sh9} {M M' M1 M2 N : Mem9} {g x y x0 n c B B' l a A : Nat} {Q : Nat → Int32}
theorem s_ei : ¬ ("java/lang/IllegalArgumentException" : String) = "java/lang/IndexOutOfBoundsException" := by decide +kernel
theorem s_si : ¬ ("java/lang/IllegalStateException" : String) = "java/lang/IndexOutOfBoundsException" := by decide +kernel
theorem s_se : ¬ ("java/lang/IllegalStateException" : String) = "java/lang/IllegalArgumentException" := by decide +kernel
theorem i_lo {y : Int32} (h : y < 0) : y.toInt < 0 := by rw [i32_lt, i32_0] at h; exact h
theorem y_of {y : Int32} {n : Nat} (h : 0 ≤ y.toInt ∧ y.toInt ≤ (n : Int)) (hn : n < 2 ^ 31) : ∃ w, w ≤ n ∧ y = nI w := i32_ex hn h.1 h.2
/-! about -/
def aw8 (Q : Nat → Int32) (w : Nat) : Int32 := if w < 2 then Q w else ab8 Q w
end RL
