section RU
variable {z : Sh9} {M M' M1 M2 M6 N N' : Mem9} {g x y x0 n c b sg B B' l a A gg w h d2 d3 d4 d5 : Nat} {Q Q' R p r : Nat → Int32} {g0 g1 g2 len : Int32}
/-! both sides' tests -/
abbrev ca8 (Q : Nat → Int32) (l : Nat) (len : Int32) : Prop := l < kn8 Q ∧ (2 ≤ len.toInt ∧ len.toInt ≤ 12) ∧ kc8 Q l < 6
abbrev cm8 (Q : Nat → Int32) (l : Nat) : Prop := l < kn8 Q ∧ cb8 Q l
theorem in_l (hl : l < 1000) : (0 ≤ (nI l).toInt ∧ (nI l).toInt < (n : Int)) ↔ l < n := by
  rw [nI_toInt (by omega)]
  omega
theorem xa_no {lost fol : Int32} (hG : G8 z g) (h : GR8 M g Q B) (hl : l < 1000) (hno : ¬ ca8 Q l len) : f_X0_addVehicle z g (nI l) len lost fol M = some (.inl (some (.int 0)), M) := by
  refine x0_noV hG h (fun e => hno ?_)
  have h1 := (in_l hl).mp e.1
  exact ⟨h1, e.2.1, e.2.2 l rfl (by have := (g8_2 h).2; omega)⟩
theorem xm_no (hG : G8 z g) (h : GR8 M g Q B) (hl : l < 1000) (hno : ¬ cm8 Q l) : f_X0_mendArm z g (nI l) M = some (.inl (some (.int 0)), M) := by
  refine x0_nomend hG h (fun e => hno ?_)
  have h1 := (in_l hl).mp e.1
  exact ⟨h1, e.2 l rfl (by have := (g8_2 h).2; omega)⟩
end RU
