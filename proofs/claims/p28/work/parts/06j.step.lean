section QE
variable {z : Sh9} {x l c : Nat} {M : Mem9} {R p : Nat → Int32}
theorem mR_o {j : Nat} (h : j ≠ 2) : mR9 c p R j = R j := by
  unfold mR9
  split
  · exact pu_u_ne h
  · rfl
/-- the totals after a lane's tick -/
def pR9 (c : Nat) (p R : Nat → Int32) : Nat → Int32 := tR9 (hi9 (cc9 c p) (t3 (cc9 c p) (ct9 (cc9 c p) (R 7) (R 8) (R 9) (mo9 c p)))) (hR9 (cc9 c p) (t3 (cc9 c p) (ct9 (cc9 c p) (R 7) (R 8) (R 9) (mo9 c p))) (cR9 (cc9 c p) (mo9 c p) (mR9 c p R))) (cc9 c p)
/-- the arm is up after step 3 -/
def up9 (c : Nat) (p R : Nat → Int32) : Int32 := if t3 (cc9 c p) (ct9 (cc9 c p) (R 7) (R 8) (R 9) (mo9 c p)) 1 = 4 then 1 else 0
end QE
